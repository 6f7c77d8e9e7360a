import java.util.ArrayList;
import java.util.List;
import java.util.Random;

/** Runs of calls by draws: the program and the naive one must answer alike. */
public final class ModelTest {
    private static final String[] CALLS = {
        "tray 3", "write 3", "read 2", "pour 5", "fault 1", "told 1", "cell 2", "lesson 2", "pupil 2", "catches 2",
        "go 2", "go 2", "go 2", "go 2", "free 2", "free 2", "tear 1", "pick 1", "year 1", "plant 3", "plant 3", "wish 2", "teach 3", "come 1", "rule 1",
        "reach 1", "far 2", "way 3", "calm 2", "pricks 2", "opening 2", "freed 0", "helpers 1", "learns 1", "alone 1", "together 1",
        "orders 0", "orderAt 1", "left 2", "fits 3", "fitsAt 4", "ask 3", "whose 2", "game 3", "moveOf 3", "chance 2", "slips 2",
        "copyThorns 1", "live 1", "live 1", "lived 1", "mean 2", "mark 0", "undo 0", "school", "autumns", "autumns", "row", "twos", "feed 5"
    };

    private final Check check = new Check();
    private final Random draws;
    private ThornSchool x;
    private NaiveSchool y;
    private final List<String> history = new ArrayList<>();
    private int calls;
    private boolean wrong;

    private ModelTest(long seed) {
        draws = new Random(seed);
    }

    public static void main(String[] args) {
        int runs = args.length > 1 ? Integer.parseInt(args[1]) : 1000;
        ModelTest t = new ModelTest(20261118);
        for (int i = 0; i < runs && !t.wrong; i++) t.run();
        t.check.end();
    }

    private void run() {
        x = new ThornSchool();
        y = new NaiveSchool();
        history.clear();
        calls = 0;
        if (draws.nextInt(8) > 0) text("school");
        // no object is asked more than 512 times; a text takes some 70 of them
        while (calls < 420 && !wrong) some();
        if (wrong) for (String h : history) System.out.println(h);
    }

    private void some() {
        String[] c = CALLS[draws.nextInt(CALLS.length)].split(" ");
        switch (c[0]) {
            case "school":
                if (draws.nextInt(5) == 0) text("school");
                return;
            case "autumns": text("autumns"); return;
            case "row": row(false); return;
            case "twos": row(true); return;
            default:
        }
        long[] a = new long[Integer.parseInt(c[1])];
        for (int i = 0; i < a.length; i++) a[i] = argument(c[0], i);
        both(c[0], a);
    }

    private long argument(String call, int i) {
        int odd = draws.nextInt(40);
        if (odd == 0) return new int[] {-1, -2, Integer.MIN_VALUE, Integer.MAX_VALUE, 10000, 60, 61, 100, 26, 32, 33, 64}[draws.nextInt(12)];
        int cells = y.w.cells();
        int pupils = Math.max(1, y.w.pupils.size());
        switch (call + i) {
            case "tray0": case "write0": case "read0": case "pour0": case "pour2": case "fits1": case "fitsAt1": case "ask1": case "whose0": case "copyThorns0":
                return draws.nextInt(odd < 3 ? 5 : 4);
            case "tray1": return draws.nextInt(4);
            case "tray2": return draws.nextInt(62);
            case "write1": case "read1": return draws.nextInt(odd < 20 ? 10 : 61);
            case "write2": return draws.nextInt(3) == 0 ? draws.nextLong() : draws.nextInt(30) - 2;
            case "pour1": case "pour3": case "pour4": return draws.nextInt(odd < 20 ? 8 : 40) - (odd == 1 ? 1 : 0);
            case "told0": return draws.nextInt(12);
            case "cell0": case "catches1": case "plant0": case "come0": case "far1": case "way1": case "calm1": case "pricks1": case "opening1": case "chance1":
                return draws.nextInt(cells + (odd < 3 ? 2 : 0));
            case "cell1": case "lesson1": case "fault0": return draws.nextInt(4);
            case "lesson0": case "teach1": case "alone0": case "together0": case "left1": return draws.nextInt(Math.max(1, y.w.lessons.size()) + (odd < 5 ? 1 : 0));
            case "pupil1": return draws.nextInt(8);
            case "go1": return draws.nextInt(odd < 3 ? 5 : 4);
            case "plant1": return draws.nextInt(odd < 3 ? 3 : 2);
            case "plant2": case "wish1": return draws.nextInt(odd < 20 ? 11 : 3);
            case "year0": return odd < 10 ? draws.nextInt(101) : odd < 13 ? 99 : 1 + draws.nextInt(2);
            case "teach2": return draws.nextInt(2);
            case "rule0": return draws.nextInt(18);
            case "way2": return draws.nextInt(7);
            case "orderAt0": return draws.nextInt(8);
            case "fits2": case "fitsAt2": case "ask2": case "whose1": return draws.nextInt(odd < 10 ? 23 : 3);
            case "fitsAt3": return draws.nextInt(5);
            case "game2": case "moveOf2": return draws.nextInt(odd == 1 ? 6 : 5);
            case "slips0": case "slips1": return draws.nextInt(14);
            case "live0": case "mean0": return odd < 10 ? 9970 + draws.nextInt(40) : draws.nextInt(10000);
            case "mean1": return draws.nextInt(22);
            case "lived0": return draws.nextInt(6);
            default: return call.equals("feed") ? draws.nextInt() : draws.nextInt(pupils + (odd < 4 ? 1 : 0));
        }
    }

    /** A TRAY of numbers that may be asked: CELLS, or CELLS and how one was caught there. */
    private void row(boolean twos) {
        int tray = draws.nextInt(4);
        int many = draws.nextInt(twos ? 8 : 4);
        both("tray", tray, draws.nextInt(4), many);
        int want = draws.nextInt(10);
        for (int i = 0; i + 1 < many && twos; i += 2) {
            int cell = draws.nextInt(y.w.cells());
            int c = y.w.pupils.isEmpty() ? 3 : y.w.caught(y.w.pupils.get(0), cell, want);
            both("write", tray, i, draws.nextInt(30) == 0 ? 25 : cell);
            both("write", tray, i + 1, draws.nextInt(15) == 0 ? draws.nextInt(21) - 1 : c);
        }
        for (int i = 0; i < many && !twos; i++) both("write", tray, i, draws.nextInt(y.w.cells() + (draws.nextInt(20) == 0 ? 1 : 0)));
    }

    private void text(String call) {
        String s = call.equals("school") ? schoolText() : autumnsText();
        if (draws.nextInt(3) == 0) s = spoilt(s);
        int most = call.equals("school") ? 900 : 310;
        if (s.length() > most) s = s.substring(0, most);
        // what is still on the tape goes as a faulty text
        if (!y.tape.isEmpty()) both("school", y.tape.size());
        for (int i = 0; i < s.length(); i += 20) {
            long[] v = new long[5];
            for (int k = 0; k < 20; k++) {
                int c = i + k < s.length() ? s.charAt(i + k) : 0;
                v[k / 4] |= (long) c << (24 - k % 4 * 8);
            }
            for (int k = 0; k < 5; k++) v[k] = (int) v[k];
            both("feed", v);
        }
        both(call, draws.nextInt(12) == 0 ? draws.nextInt(s.length() + 1) : s.length());
        both("fault", 0);
        both("fault", 1);
        if (!y.tape.isEmpty()) both("school", 0);
    }

    private String spoilt(String s) {
        StringBuilder b = new StringBuilder(s);
        String signs = "abz09 ;<>=\n\t.A-`{/:" + (char) 233 + (char) 255 + (char) 0;
        for (int i = 1 + draws.nextInt(3); i > 0 && b.length() > 0; i--) {
            int at = draws.nextInt(b.length());
            switch (draws.nextInt(9)) {
                case 6: case 7: {
                    String[] parts = s.split("(?<=;)");
                    b.insert(draws.nextBoolean() ? 0 : b.length(), parts[draws.nextInt(parts.length)]);
                    break;
                }
                case 0: b.setCharAt(at, signs.charAt(draws.nextInt(signs.length()))); break;
                case 1: b.insert(at, signs.charAt(draws.nextInt(signs.length()))); break;
                case 2: b.deleteCharAt(at); break;
                case 3: b.setLength(at); break;
                default:
                    String[] w = s.split("(?<=[ ;])");
                    int k = draws.nextInt(w.length);
                    String[] all = ("thicket by odds thorns berries lesson hours needs pupil at want knows go left right up down free tear pick "
                        + "year any when caught loop end stop abcdefgh abcdefghi 1 10 16 17 20 21 99 100 9999 12345 0 ; < = > p q l m").split(" ");
                    if (w[k].matches("[0-9]+[ ;]") && draws.nextInt(3) > 0) w[k] = draws.nextInt(30) + w[k].substring(w[k].length() - 1);
                    else if (draws.nextInt(4) > 0) w[k] = all[draws.nextInt(all.length)] + " ";
                    else w[k] = w[k] + w[draws.nextInt(w.length)];
                    b = new StringBuilder(String.join("", w));
            }
        }
        return b.toString();
    }

    private String schoolText() {
        StringBuilder b = new StringBuilder();
        int wide = 4, high = 4;
        if (draws.nextInt(4) > 0) {
            wide = 1 + draws.nextInt(5);
            high = 1 + draws.nextInt(5);
            b.append("thicket ").append(wide).append(" by ").append(high).append(";");
        }
        if (draws.nextBoolean()) b.append("odds ").append(draws.nextInt(17)).append(" ;");
        int lessons = 0, pupils = 0;
        int parts = draws.nextInt(25);
        int thick = 1 + draws.nextInt(4);
        for (int i = 0; i < parts; i++) {
            int kind = draws.nextInt(6);
            if (draws.nextInt(4) == 0) b.append(draws.nextBoolean() ? " " : "\n");
            if (kind < 2) {
                b.append("thorns ").append(draws.nextInt(wide * high)).append(" ").append(draws.nextInt(4) == 0 ? draws.nextInt(10) : draws.nextInt(thick)).append(";");
            } else if (kind == 2) {
                b.append("berries ").append(draws.nextInt(wide * high)).append(" ").append(draws.nextInt(10)).append(";");
            } else if (kind == 3 && (lessons < 7 || draws.nextInt(10) == 0)) {
                b.append("lesson ").append(name('l', lessons)).append(" hours ").append(1 + draws.nextInt(9));
                list(b, " needs", lessons);
                b.append(";");
                lessons++;
            } else if ((kind > 3 || i == 3) && (pupils < 5 || draws.nextInt(10) == 0)) {
                b.append("pupil ").append(name('p', pupils)).append(" at ").append(draws.nextInt(wide * high));
                if (draws.nextBoolean()) b.append(" want ").append(draws.nextInt(draws.nextBoolean() ? 3 : 10));
                list(b, " knows", lessons);
                b.append(";");
                pupils++;
            }
        }
        return b.toString();
    }

    private static String name(char c, int i) {
        return i == 2 ? c + "bcdefgh" : "" + c + (char) ('a' + i);
    }

    private void list(StringBuilder b, String word, int lessons) {
        if (draws.nextInt(3) == 0) return;
        b.append(word);
        for (int l = 0; l < lessons; l++) if (draws.nextInt(3) == 0) b.append(" ").append(name('l', l));
    }

    private String autumnsText() {
        StringBuilder b = new StringBuilder();
        int steps = draws.nextInt(draws.nextInt(10) == 0 ? 36 : 14);
        int open = 0;
        for (int i = 0; i < steps; i++) {
            switch (draws.nextInt(12)) {
                case 0: case 1: b.append("go ").append(who()).append(" ").append(new String[] {"left", "right", "up", "down"}[draws.nextInt(4)]); break;
                case 2: b.append("free ").append(who()).append(" ").append(who()); break;
                case 3: b.append("tear ").append(who()); break;
                case 4: b.append("pick ").append(who()); break;
                case 5: b.append("year ").append(1 + draws.nextInt(draws.nextInt(5) == 0 ? 20 : 2)); break;
                case 6: case 7: b.append("any"); break;
                case 8: case 9: b.append(test()); open++; break;
                case 10: b.append("loop ").append(1 + draws.nextInt(draws.nextBoolean() ? 99 : 5)); open++; break;
                default: b.append(draws.nextInt(4) == 0 ? "stop" : "any");
            }
            b.append(";");
            if (open > 0 && draws.nextInt(3) == 0 || open > 3 && draws.nextInt(10) > 0) { b.append("end;"); open--; }
        }
        while (open-- > 0) b.append("end;");
        return b.toString();
    }

    private String who() {
        int n = y.w.pupils.size();
        String s = n == 0 ? "nobody" : y.w.pupils.get(draws.nextInt(n)).name;
        if (s.isEmpty() && y.w.pupils.size() > 0) s = y.w.pupils.get(0).name;
        return s.isEmpty() ? "nobody" : s;
    }

    private String test() {
        char c = "<>=".charAt(draws.nextInt(3));
        switch (draws.nextInt(4)) {
            case 0: return "when caught " + who();
            case 1: return "when at " + who() + " " + draws.nextInt(y.w.cells());
            case 2: return "when knows " + who() + c + draws.nextInt(4);
            default: return "when thorns " + draws.nextInt(y.w.cells()) + c + draws.nextInt(10);
        }
    }

    private void both(String call, long... a) {
        if (wrong) return;
        StringBuilder s = new StringBuilder(call);
        for (long v : a) s.append(" ").append(v);
        long due = y.call(call, a);
        history.add(s + " -> " + due + " (" + y.status + ")");
        same(s.toString(), program(call, a), due);
        boolean tells = call.equals("chance") || call.equals("slips") || call.equals("mean");
        boolean often = history.size() % 8 == 0;
        if (often || !call.equals("feed") && !call.equals("fault")) same(s + ", its status", x.status(), y.status);
        if (!tells && !often) return;
        same(s + ", its top", x.top(), y.top.longValueExact());
        same(s + ", its bottom", x.bottom(), y.bottom.longValueExact());
    }

    private void same(String what, long got, long due) {
        calls++;
        check.same(what, got, due);
        if (got != due) wrong = true;
    }

    private long program(String call, long[] v) {
        int[] a = new int[5];
        for (int i = 0; i < v.length; i++) a[i] = (int) v[i];
        switch (call) {
            case "tray": return is(x.tray(a[0], a[1], a[2]));
            case "write": return is(x.write(a[0], a[1], v[2]));
            case "read": return x.read(a[0], a[1]);
            case "pour": return is(x.pour(a[0], a[1], a[2], a[3], a[4]));
            case "feed": return x.feed(a[0], a[1], a[2], a[3], a[4]);
            case "school": return x.school(a[0]);
            case "autumns": return x.autumns(a[0]);
            case "fault": return x.fault(a[0]);
            case "told": return x.told(a[0]);
            case "cell": return x.cell(a[0], a[1]);
            case "lesson": return x.lesson(a[0], a[1]);
            case "pupil": return x.pupil(a[0], a[1]);
            case "catches": return x.catches(a[0], a[1]);
            case "go": return x.go(a[0], a[1]);
            case "free": return x.free(a[0], a[1]);
            case "tear": return x.tear(a[0]);
            case "pick": return x.pick(a[0]);
            case "year": return x.year(a[0]);
            case "plant": return x.plant(a[0], a[1], a[2]);
            case "wish": return x.wish(a[0], a[1]);
            case "teach": return is(x.teach(a[0], a[1], a[2] != 0));
            case "come": return x.come(a[0]);
            case "rule": return is(x.rule(a[0]));
            default: return asked(call, a);
        }
    }

    private long asked(String call, int[] a) {
        switch (call) {
            case "reach": return x.reach(a[0]);
            case "far": return x.far(a[0], a[1]);
            case "way": return x.way(a[0], a[1], a[2]);
            case "calm": return x.calm(a[0], a[1]);
            case "pricks": return x.pricks(a[0], a[1]);
            case "opening": return x.opening(a[0], a[1]);
            case "freed": return x.freed();
            case "helpers": return x.helpers(a[0]);
            case "learns": return x.learns(a[0]);
            case "alone": return x.alone(a[0]);
            case "together": return x.together(a[0]);
            case "orders": return x.orders();
            case "orderAt": return x.orderAt(a[0]);
            case "left": return x.left(a[0], a[1]);
            case "fits": return x.fits(a[0], a[1], a[2]);
            case "fitsAt": return x.fitsAt(a[0], a[1], a[2], a[3]);
            case "ask": return x.ask(a[0], a[1], a[2]);
            case "whose": return x.whose(a[0], a[1]);
            case "game": return x.game(a[0], a[1], a[2]);
            case "moveOf": return x.moveOf(a[0], a[1], a[2]);
            case "chance": return is(x.chance(a[0], a[1]));
            case "slips": return is(x.slips(a[0], a[1]));
            case "copyThorns": return x.copyThorns(a[0]);
            case "live": return x.live(a[0]);
            case "lived": return x.lived(a[0]);
            case "mean": return is(x.mean(a[0], a[1]));
            case "mark": return x.mark();
            case "undo": return x.undo();
            default: throw new IllegalArgumentException(call);
        }
    }

    private static long is(boolean b) {
        return b ? 1 : 0;
    }
}
