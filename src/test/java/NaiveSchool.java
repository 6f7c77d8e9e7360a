import java.math.BigInteger;
import java.util.ArrayDeque;
import java.util.ArrayList;
import java.util.Arrays;
import java.util.HashMap;
import java.util.HashSet;
import java.util.List;
import java.util.Map;
import java.util.PriorityQueue;
import java.util.Set;
import java.util.TreeSet;

/**
 * The document again, written another way (trees, sets, searches through all), so that a slip in the
 * program is not likely to stand here, too.
 */
final class NaiveSchool {
    static final Set<String> RESERVED = new HashSet<>(Arrays.asList(("thicket by odds thorns berries lesson hours needs "
        + "pupil at want knows go left right up down free tear pick year any when caught loop end stop").split(" ")));

    static final class Bad extends RuntimeException {
        final int status;
        Bad(int status) { super(null, null, false, false); this.status = status; }
    }

    static final class Fault extends RuntimeException {
        final int kind;
        final int place;
        Fault(int kind, int place) { super(null, null, false, false); this.kind = kind; this.place = place; }
    }

    static final class Lesson {
        String name;
        int hours;
        Set<Integer> needs = new TreeSet<>();
    }

    static final class Pupil {
        String name = "";
        int cell, want, caught, marks, torn;
        Set<Integer> knows = new TreeSet<>();
        Pupil copy() {
            Pupil p = new Pupil();
            p.name = name; p.cell = cell; p.want = want; p.caught = caught; p.marks = marks; p.torn = torn;
            p.knows = new TreeSet<>(knows);
            return p;
        }
    }

    static final class World {
        int wide = 4, high = 4, odds = 2, year;
        Map<Integer, Integer> thorns = new HashMap<>();
        Map<Integer, Integer> berries = new HashMap<>();
        List<Lesson> lessons = new ArrayList<>();
        List<Pupil> pupils = new ArrayList<>();
        List<Node> autumns;
        World copy() {
            World w = new World();
            w.wide = wide; w.high = high; w.odds = odds; w.year = year;
            w.thorns = new HashMap<>(thorns);
            w.berries = new HashMap<>(berries);
            w.lessons = lessons;
            for (Pupil p : pupils) w.pupils.add(p.copy());
            w.autumns = autumns;
            return w;
        }
        int cells() { return wide * high; }
        List<Integer> beside(int c) {
            List<Integer> l = new ArrayList<>();
            for (int side : new int[] {2, 0, 1, 3}) {
                int d = to(c, side);
                if (d >= 0) l.add(d);
            }
            return l; // ascending
        }
        int to(int c, int side) {
            int row = c / wide, col = c % wide;
            if (side == 0) col--;
            if (side == 1) col++;
            if (side == 2) row--;
            if (side == 3) row++;
            return row < 0 || col < 0 || row >= high || col >= wide ? -1 : row * wide + col;
        }
        int caught(Pupil p, int cell, int want) {
            int t = thorns.getOrDefault(cell, 0);
            if (t == 0) return 0;
            int k = t + want - p.knows.size();
            return k < 0 ? 0 : k;
        }
        boolean near(Pupil p, Pupil q) { return p.cell == q.cell || beside(p.cell).contains(q.cell); }
        int next(Pupil p) {
            for (int i = 0; i < lessons.size(); i++) {
                if (!p.knows.contains(i) && p.knows.containsAll(lessons.get(i).needs)) return i;
            }
            return -1;
        }
        int grown() {
            int s = 0;
            for (int v : thorns.values()) s += v;
            return s;
        }
    }

    static final class Node {
        String word;
        String test;
        int a, b, n;
        char sign;
        List<Node> body = new ArrayList<>();
    }

    static final class Token {
        char type; // w word, n number, s sign, x bad, e end
        String text;
        int place;
    }

    World w = new World();
    List<World> marks = new ArrayList<>();
    Object[] trays = new Object[4];
    int[] sorts = new int[4];
    ArrayList<Integer> tape = new ArrayList<>();
    int status;
    BigInteger top = BigInteger.ZERO, bottom = BigInteger.ONE;
    int fault = -1, faultPlace = -1;
    int[] livedNow = new int[6];
    int[] lived;

    // ---- texts

    static List<Token> tokens(String s) {
        List<Token> l = new ArrayList<>();
        int i = 0;
        while (true) {
            while (i < s.length() && (s.charAt(i) == ' ' || s.charAt(i) == '\n')) i++;
            Token t = new Token();
            t.place = i;
            l.add(t);
            if (i == s.length()) { t.type = 'e'; t.text = ""; return l; }
            char c = s.charAt(i);
            int j = i;
            if (c >= 'a' && c <= 'z') {
                while (j < s.length() && s.charAt(j) >= 'a' && s.charAt(j) <= 'z') j++;
                t.type = 'w';
            } else if (c >= '0' && c <= '9') {
                while (j < s.length() && s.charAt(j) >= '0' && s.charAt(j) <= '9') j++;
                t.type = j - i > 4 ? 'x' : 'n';
            } else {
                j = i + 1;
                t.type = ";<>=".indexOf(c) >= 0 ? 's' : 'x';
            }
            t.text = s.substring(i, j);
            i = j;
        }
    }

    static final class Parser {
        final List<Token> tokens;
        int i;
        Parser(String s) { tokens = tokens(s); }
        Token see() { return tokens.get(i); }
        boolean at(String s) { return see().text.equals(s) && see().type != 'x'; }
        boolean atEnd() { return see().type == 'e'; }
        Fault fault(int kind) { return new Fault(see().type == 'x' ? 1 : kind, see().place); }
        void need(String s) { if (!at(s)) throw fault(2); i++; }
        boolean isName() { return see().type == 'w' && see().text.length() <= 8 && !RESERVED.contains(see().text); }
        int number(int lo, int hi) {
            if (see().type != 'n') throw fault(2);
            int v = Integer.parseInt(see().text);
            if (v < lo || v > hi) throw fault(4);
            i++;
            return v;
        }
    }

    static int find(World w, String name, boolean lesson) {
        if (lesson) {
            for (int k = 0; k < w.lessons.size(); k++) if (w.lessons.get(k).name.equals(name)) return k;
        } else {
            for (int k = 0; k < w.pupils.size(); k++) if (w.pupils.get(k).name.equals(name)) return k;
        }
        return -1;
    }

    static World parseSchool(String s) {
        Parser p = new Parser(s);
        World w = new World();
        boolean thicket = false, odds = false, things = false;
        while (!p.atEnd()) {
            if (p.at("thicket")) {
                if (thicket || things) throw p.fault(5);
                thicket = true;
                p.i++;
                w.wide = p.number(1, 5);
                p.need("by");
                w.high = p.number(1, 5);
            } else if (p.at("odds")) {
                if (odds) throw p.fault(5);
                odds = true;
                p.i++;
                w.odds = p.number(0, 16);
            } else if (p.at("thorns") || p.at("berries")) {
                Map<Integer, Integer> m = p.at("thorns") ? w.thorns : w.berries;
                things = true;
                p.i++;
                int c = p.number(0, w.cells() - 1);
                m.put(c, p.number(0, 9));
            } else if (p.at("lesson")) {
                if (w.lessons.size() == 7) throw p.fault(6);
                p.i++;
                Lesson l = new Lesson();
                l.name = newName(p, w);
                p.need("hours");
                l.hours = p.number(1, 9);
                if (p.at("needs")) l.needs = list(p, w);
                p.need(";");
                w.lessons.add(l);
                continue;
            } else if (p.at("pupil")) {
                if (w.pupils.size() == 5) throw p.fault(6);
                things = true;
                p.i++;
                Pupil q = new Pupil();
                q.name = newName(p, w);
                p.need("at");
                q.cell = p.number(0, w.cells() - 1);
                if (p.at("want")) { p.i++; q.want = p.number(0, 9); }
                if (p.at("knows")) q.knows = list(p, w);
                p.need(";");
                w.pupils.add(q);
                continue;
            } else {
                throw p.fault(2);
            }
            p.need(";");
        }
        return w;
    }

    static String newName(Parser p, World w) {
        if (!p.isName()) throw p.fault(2);
        String n = p.see().text;
        if (find(w, n, true) >= 0 || find(w, n, false) >= 0) throw p.fault(3);
        p.i++;
        return n;
    }

    static Set<Integer> list(Parser p, World w) {
        Set<Integer> set = new TreeSet<>();
        p.i++;
        while (p.isName()) {
            int l = find(w, p.see().text, true);
            if (l < 0) throw p.fault(3);
            if (!set.add(l)) throw p.fault(5);
            p.i++;
        }
        return set;
    }

    static int counted;

    static List<Node> parseAutumns(String s, World w) {
        Parser p = new Parser(s);
        counted = 0;
        List<Node> l = steps(p, w, 0);
        if (!p.atEnd()) throw p.fault(2);
        return l;
    }

    static List<Node> steps(Parser p, World w, int depth) {
        List<Node> l = new ArrayList<>();
        while (!p.atEnd() && !p.at("end")) {
            Node n = new Node();
            n.word = p.see().text;
            if (!Arrays.asList("go", "free", "tear", "pick", "year", "any", "when", "loop", "stop").contains(n.word)) throw p.fault(2);
            if (counted == 30) throw p.fault(6);
            boolean deep = n.word.equals("when") || n.word.equals("loop");
            if (deep && depth == 3) throw p.fault(7);
            counted++;
            p.i++;
            if (n.word.equals("go")) {
                n.a = who(p, w);
                n.b = Arrays.asList("left", "right", "up", "down").indexOf(p.see().text);
                if (n.b < 0) throw p.fault(2);
                p.i++;
            } else if (n.word.equals("free")) {
                n.a = who(p, w);
                n.b = who(p, w);
            } else if (n.word.equals("tear") || n.word.equals("pick")) {
                n.a = who(p, w);
            } else if (n.word.equals("year")) {
                n.n = p.number(1, 20);
            } else if (n.word.equals("loop")) {
                n.n = p.number(1, 99);
            } else if (n.word.equals("when")) {
                n.test = p.see().text;
                if (!Arrays.asList("caught", "at", "knows", "thorns").contains(n.test)) throw p.fault(2);
                p.i++;
                n.a = n.test.equals("thorns") ? p.number(0, w.cells() - 1) : who(p, w);
                if (n.test.equals("knows") || n.test.equals("thorns")) {
                    if (!p.at("<") && !p.at(">") && !p.at("=")) throw p.fault(2);
                    n.sign = p.see().text.charAt(0);
                    p.i++;
                    n.n = p.number(0, 9);
                } else if (n.test.equals("at")) {
                    n.n = p.number(0, w.cells() - 1);
                }
            }
            p.need(";");
            if (deep) {
                n.body = steps(p, w, depth + 1);
                p.need("end");
                p.need(";");
            }
            l.add(n);
        }
        if (depth == 0 && !p.atEnd()) throw p.fault(2);
        return l;
    }

    static int who(Parser p, World w) {
        if (!p.isName()) throw p.fault(2);
        int k = find(w, p.see().text, false);
        if (k < 0) throw p.fault(3);
        p.i++;
        return k;
    }

    // ---- what is asked

    void must(boolean b, int status) { if (!b) throw new Bad(status); }
    Pupil who(int p) { must(p >= 0 && p < w.pupils.size(), 1); return w.pupils.get(p); }
    void isCell(int c) { must(c >= 0 && c < w.cells(), 1); }
    void isLesson(int l) { must(l >= 0 && l < w.lessons.size(), 1); }
    void in(int v, int lo, int hi) { must(v >= lo && v <= hi, 1); }
    long[] row(int t) { in(t, 0, 3); must(trays[t] != null, 2); return (long[]) trays[t]; }

    static int mask(Set<Integer> s) {
        int m = 0;
        for (int v : s) m |= 1 << v;
        return m;
    }

    static long cut(int sort, long v) {
        int bits = 8 << sort;
        BigInteger b = BigInteger.valueOf(v).mod(BigInteger.ONE.shiftLeft(bits));
        if (b.testBit(bits - 1)) b = b.subtract(BigInteger.ONE.shiftLeft(bits));
        return b.longValueExact();
    }

    /** One call by its name: its answer (a boolean counts 1 or 0); STATUS is kept. */
    long call(String name, long[] a) {
        boolean isBoolean = Arrays.asList("tray", "write", "pour", "teach", "rule", "chance", "slips", "mean").contains(name);
        switch (name) {
            case "status": return status;
            case "top": return top.longValueExact();
            case "bottom": return bottom.longValueExact();
            case "feed": {
                if (tape.size() + 20 > 900) return -1;
                for (int k = 0; k < 5; k++) for (int b = 3; b >= 0; b--) tape.add((int) (a[k] >> (8 * b)) & 255);
                return tape.size();
            }
            case "fault": return a[0] == 0 ? fault : a[0] == 1 ? faultPlace : -1;
            default:
        }
        try {
            int[] v = new int[a.length];
            for (int i = 0; i < v.length; i++) v[i] = (int) a[i];
            long r = answer(name, v, a);
            status = 0;
            return r;
        } catch (Bad b) {
            status = b.status;
            return isBoolean ? 0 : -1;
        }
    }

    private long answer(String name, int[] a, long[] raw) {
        switch (name) {
            case "tray": in(a[0], 0, 3); in(a[1], 0, 3); in(a[2], 0, 60); trays[a[0]] = new long[a[2]]; sorts[a[0]] = a[1]; return 1;
            case "write": { long[] r = row(a[0]); must(a[1] >= 0 && a[1] < r.length, 3); r[a[1]] = cut(sorts[a[0]], raw[2]); return 1; }
            case "read": { long[] r = row(a[0]); must(a[1] >= 0 && a[1] < r.length, 3); return r[a[1]]; }
            case "pour": return pour(a);
            case "school": return school(a[0]);
            case "autumns": return autumns(a[0]);
            case "told": return told(a[0]);
            case "cell": return cell(a[0], a[1]);
            case "lesson": return lesson(a[0], a[1]);
            case "pupil": return pupil(a[0], a[1]);
            case "catches": { Pupil p = who(a[0]); isCell(a[1]); return w.caught(p, a[1], p.want); }
            case "go": who(a[0]); in(a[1], 0, 3); return go(a[0], a[1]);
            case "free": who(a[0]); who(a[1]); must(a[0] != a[1], 1); free(a[0], a[1]); return w.pupils.get(a[1]).caught;
            case "tear": who(a[0]); return tear(a[0]);
            case "pick": who(a[0]); return pick(a[0]);
            case "year": in(a[0], 1, 99); must(w.year + a[0] <= 9999, 4); years(a[0]); return w.grown();
            case "plant": {
                isCell(a[0]); in(a[1], 0, 1); in(a[2], 0, 9);
                Integer old = (a[1] == 0 ? w.thorns : w.berries).put(a[0], a[2]);
                return old == null ? 0 : old;
            }
            case "wish": { Pupil p = who(a[0]); in(a[1], 0, 9); int old = p.want; p.want = a[1]; return old; }
            case "teach": {
                Pupil p = who(a[0]); isLesson(a[1]);
                must(a[2] != 0 ? p.knows.add(a[1]) : p.knows.remove(a[1]), 7);
                return 1;
            }
            case "come": {
                isCell(a[0]); must(w.pupils.size() < 5, 4);
                Pupil p = new Pupil(); p.cell = a[0]; w.pupils.add(p);
                return w.pupils.size() - 1;
            }
            case "rule": in(a[0], 0, 16); w.odds = a[0]; return 1;
            default: return asked(name, a);
        }
    }

    private long asked(String name, int[] a) {
        switch (name) {
            case "reach": who(a[0]); return mask(new TreeSet<>(come(who(a[0])).keySet()));
            case "far": { who(a[0]); isCell(a[1]); Integer d = come(who(a[0])).get(a[1]); must(d != null, 6); return d; }
            case "way": {
                Pupil p = who(a[0]); isCell(a[1]); in(a[2], 0, Integer.MAX_VALUE);
                Integer d = come(p).get(a[1]);
                must(d != null && a[2] <= d, 6);
                List<Integer> path = new ArrayList<>(Arrays.asList(p.cell));
                path(p, a[1], d, path);
                return path.get(a[2]);
            }
            case "calm": {
                Pupil p = who(a[0]).copy(); isCell(a[1]);
                p.caught = 0;
                for (int want = 9; want >= 0; want--) {
                    p.want = want;
                    if (come(p).containsKey(a[1])) return want;
                }
                throw new Bad(6);
            }
            case "pricks": { Pupil p = who(a[0]); isCell(a[1]); return a[1] == p.cell ? 0 : p.caught + dear(p, a[1], false); }
            case "opening": { Pupil p = who(a[0]); isCell(a[1]); return w.cells() <= 9 ? openingBySets(p, a[1]) : dear(p, a[1], true); }
            case "freed": return freed();
            case "helpers": {
                Pupil p = who(a[0]); must(p.caught > 0, 6);
                Set<Integer> s = new TreeSet<>();
                for (int i = 0; i < w.pupils.size(); i++) if (w.pupils.get(i).caught == 0 && w.near(p, w.pupils.get(i))) s.add(i);
                return mask(s);
            }
            case "learns": { int l = w.next(who(a[0])); must(l >= 0, 6); return l; }
            case "alone": { isLesson(a[0]); int h = 0; for (int l : all(a[0])) h += w.lessons.get(l).hours; return h; }
            case "together": isLesson(a[0]); return together(a[0]);
            case "orders": { int[] n = {0}; orders(new ArrayList<>(), n, null); return n[0]; }
            case "orderAt": {
                in(a[0], 0, Integer.MAX_VALUE); must(a[0] < w.lessons.size(), 6);
                List<Integer> last = new ArrayList<>();
                orders(new ArrayList<>(), new int[1], last);
                return last.get(a[0]);
            }
            case "left": {
                Pupil p = who(a[0]); isLesson(a[1]);
                if (p.knows.contains(a[1])) return 0;
                int h = 0;
                for (int l : all(a[1])) if (!p.knows.contains(l)) h += w.lessons.get(l).hours;
                return h;
            }
            case "fits": return fits(a[0], a[1], a[2]).size();
            case "fitsAt": { must(a[3] >= 0, 1); List<Integer> f = fits(a[0], a[1], a[2]); must(a[3] < f.size(), 6); return f.get(a[3]); }
            case "ask": return ask(a);
            case "whose": return whose(a);
            case "game": { two(a); in(a[2], 0, 4); return escapes(w.pupils.get(a[0]), w.pupils.get(a[1]), w.pupils.get(a[0]).cell, w.pupils.get(a[1]).cell, a[2]) ? 1 : 0; }
            case "moveOf": return moveOf(a);
            case "chance": {
                Pupil p = who(a[0]); isCell(a[1]);
                Integer d = come(p).get(a[1]);
                must(d != null && d <= 15, 6);
                tell(BigInteger.valueOf(16 - w.odds).pow(d), BigInteger.valueOf(16).pow(d));
                return 1;
            }
            case "slips": return slips(a[0], a[1]);
            case "copyThorns": {
                long[] r = row(a[0]);
                must(r.length >= w.cells(), 3);
                for (int i = 0; i < w.cells(); i++) r[i] = w.thorns.getOrDefault(i, 0);
                return w.cells();
            }
            default: return autumnCalls(name, a);
        }
    }

    private long autumnCalls(String name, int[] a) {
        switch (name) {
            case "live": in(a[0], 0, 9999); must(w.autumns != null, 6); live(a[0]); lived = livedNow; return livedNow[5];
            case "lived": in(a[0], 0, 4); must(lived != null, 6); return lived[a[0]];
            case "mean": {
                in(a[0], 0, 9999); in(a[1], 1, 20); must(a[0] + a[1] - 1 <= 9999, 1); must(w.autumns != null, 6);
                World now = w;
                int sum = 0;
                for (int i = 0; i < a[1]; i++) {
                    w = now.copy();
                    live(a[0] + i);
                    for (Pupil p : w.pupils) sum += p.torn;
                }
                w = now;
                tell(BigInteger.valueOf(sum), BigInteger.valueOf(a[1]));
                return 1;
            }
            case "mark": must(marks.size() < 3, 4); marks.add(w.copy()); return marks.size();
            case "undo": must(!marks.isEmpty(), 6); w = marks.remove(marks.size() - 1); return marks.size();
            default: throw new IllegalArgumentException(name);
        }
    }

    void two(int[] a) { who(a[0]); who(a[1]); must(a[0] != a[1], 1); }

    private long pour(int[] a) {
        in(a[0], 0, 3); in(a[2], 0, 3);
        must(a[1] >= 0 && a[3] >= 0 && a[4] >= 0, 1);
        long[] from = row(a[0]), to = row(a[2]);
        must(sorts[a[0]] == sorts[a[2]], 8);
        must((long) a[1] + a[4] <= from.length && (long) a[3] + a[4] <= to.length, 3);
        long[] was = from.clone();
        for (int i = 0; i < a[4]; i++) to[a[3] + i] = was[a[1] + i];
        return 1;
    }

    private String text(int n, int most) {
        must(n >= 0 && n <= tape.size() && n <= most, 1);
        StringBuilder b = new StringBuilder();
        for (int i = 0; i < n; i++) b.append((char) (int) tape.get(i));
        tape.clear();
        fault = 0;
        faultPlace = -1;
        return b.toString();
    }

    private long school(int n) {
        String s = text(n, 900);
        try {
            w = parseSchool(s);
            return w.pupils.size();
        } catch (Fault f) {
            fault = f.kind;
            faultPlace = f.place;
            throw new Bad(9);
        }
    }

    private long autumns(int n) {
        String s = text(n, 300);
        try {
            w.autumns = parseAutumns(s, w);
            return counted;
        } catch (Fault f) {
            fault = f.kind;
            faultPlace = f.place;
            throw new Bad(9);
        }
    }

    private long told(int what) {
        in(what, 0, 10);
        int caught = 0, marked = 0, torn = 0, berries = 0;
        for (int i = 0; i < w.pupils.size(); i++) {
            Pupil p = w.pupils.get(i);
            if (p.caught > 0) caught += 1 << i;
            marked += p.marks;
            torn += p.torn;
        }
        for (int v : w.berries.values()) berries += v;
        return new int[] {w.wide, w.high, w.lessons.size(), w.pupils.size(), w.odds, w.year, w.grown(), berries, caught, marked, torn}[what];
    }

    private long cell(int c, int what) {
        isCell(c);
        in(what, 0, 2);
        if (what == 0) return w.thorns.getOrDefault(c, 0);
        if (what == 1) return w.berries.getOrDefault(c, 0);
        int s = 0;
        for (int i = 0; i < w.pupils.size(); i++) if (w.pupils.get(i).cell == c) s += 1 << i;
        return s;
    }

    private long lesson(int l, int what) {
        isLesson(l);
        in(what, 0, 2);
        if (what == 0) return w.lessons.get(l).hours;
        if (what == 1) return mask(w.lessons.get(l).needs);
        int s = 0;
        for (int i = 0; i < w.pupils.size(); i++) if (w.pupils.get(i).knows.contains(l)) s += 1 << i;
        return s;
    }

    private long pupil(int i, int what) {
        Pupil p = who(i);
        in(what, 0, 6);
        return new int[] {p.cell, p.want, mask(p.knows), p.caught, p.marks, p.torn, p.knows.size()}[what];
    }

    // ---- what is done; a Bad of 7 is a MISSED one in the AUTUMNS

    int go(int i, int side) {
        Pupil p = w.pupils.get(i);
        must(p.caught == 0 && w.to(p.cell, side) >= 0, 7);
        p.cell = w.to(p.cell, side);
        p.caught = w.caught(p, p.cell, p.want);
        return p.caught;
    }

    boolean free(int i, int k) {
        Pupil p = w.pupils.get(i), q = w.pupils.get(k);
        must(i != k && p.caught == 0 && q.caught > 0 && w.near(p, q), 7);
        q.caught--;
        if (q.caught > 0) return false;
        int l = w.next(q);
        if (l >= 0) q.knows.add(l);
        return l >= 0;
    }

    int tear(int i) {
        Pupil p = w.pupils.get(i);
        must(p.caught > 0, 7);
        int c = p.caught;
        p.torn = Math.min(9999, p.torn + c);
        p.caught = 0;
        return c;
    }

    int pick(int i) {
        Pupil p = w.pupils.get(i);
        int b = w.berries.getOrDefault(p.cell, 0);
        must(p.caught == 0 && b > 0, 7);
        w.berries.put(p.cell, 0);
        p.marks = Math.min(9999, p.marks + b);
        return b;
    }

    void years(int n) {
        must(w.year + n <= 9999, 7);
        for (int y = 0; y < n; y++) {
            w.year++;
            for (int c = 0; c < w.cells(); c++) {
                int t = w.thorns.getOrDefault(c, 0);
                if (t == 0) continue;
                w.thorns.put(c, Math.min(9, t + 1));
                w.berries.put(c, Math.min(9, w.berries.getOrDefault(c, 0) + 1));
            }
        }
    }

    // ---- where one comes

    Map<Integer, Integer> come(Pupil p) {
        Map<Integer, Integer> far = new HashMap<>();
        far.put(p.cell, 0);
        if (p.caught > 0) return far;
        ArrayDeque<Integer> todo = new ArrayDeque<>();
        todo.add(p.cell);
        while (!todo.isEmpty()) {
            int c = todo.poll();
            for (int d : w.beside(c)) {
                if (far.containsKey(d) || w.caught(p, d, p.want) > 0) continue;
                far.put(d, far.get(c) + 1);
                todo.add(d);
            }
        }
        return far;
    }

    boolean path(Pupil p, int goal, int left, List<Integer> path) {
        int here = path.get(path.size() - 1);
        if (left == 0) return here == goal;
        for (int d : w.beside(here)) {
            if (w.caught(p, d, p.want) > 0) continue;
            path.add(d);
            if (path(p, goal, left - 1, path)) return true;
            path.remove(path.size() - 1);
        }
        return false;
    }

    int dear(Pupil p, int goal, boolean cellsOnly) {
        Map<Integer, Integer> best = new HashMap<>();
        PriorityQueue<int[]> todo = new PriorityQueue<>((x, y) -> x[1] - y[1]);
        todo.add(new int[] {p.cell, 0});
        while (!todo.isEmpty()) {
            int[] c = todo.poll();
            if (best.containsKey(c[0])) continue;
            best.put(c[0], c[1]);
            for (int d : w.beside(c[0])) {
                int cost = w.caught(p, d, p.want);
                todo.add(new int[] {d, c[1] + (cellsOnly ? Math.min(cost, 1) : cost)});
            }
        }
        return best.get(goal);
    }

    int openingBySets(Pupil own, int goal) {
        Pupil p = own.copy();
        p.caught = 0;
        int least = 99;
        Map<Integer, Integer> was = w.thorns;
        for (int set = 0; set < 1 << w.cells(); set++) {
            if ((set >> p.cell & 1) == 1 || Integer.bitCount(set) >= least) continue;
            w.thorns = new HashMap<>(was);
            for (int c = 0; c < w.cells(); c++) if ((set >> c & 1) == 1) w.thorns.put(c, 0);
            if (come(p).containsKey(goal)) least = Integer.bitCount(set);
        }
        w.thorns = was;
        return least;
    }

    private long freed() {
        Set<Integer> free = new TreeSet<>();
        for (int i = 0; i < w.pupils.size(); i++) if (w.pupils.get(i).caught == 0) free.add(i);
        boolean more = true;
        while (more) {
            more = false;
            for (int i = 0; i < w.pupils.size(); i++) {
                for (int k : new ArrayList<>(free)) if (w.near(w.pupils.get(i), w.pupils.get(k))) more |= free.add(i);
            }
        }
        return mask(free);
    }

    // ---- lessons

    Set<Integer> all(int l) {
        Set<Integer> s = new TreeSet<>();
        s.add(l);
        for (int n : w.lessons.get(l).needs) s.addAll(all(n));
        return s;
    }

    int together(int l) {
        int latest = 0;
        for (int n : w.lessons.get(l).needs) latest = Math.max(latest, together(n));
        return latest + w.lessons.get(l).hours;
    }

    void orders(List<Integer> done, int[] n, List<Integer> last) {
        if (done.size() == w.lessons.size()) {
            n[0]++;
            if (last != null) {
                // orders come in their own order, so that the last one stays
                last.clear();
                last.addAll(done);
            }
            return;
        }
        for (int l = 0; l < w.lessons.size(); l++) {
            if (done.contains(l) || !done.containsAll(w.lessons.get(l).needs)) continue;
            done.add(l);
            orders(done, n, last);
            done.remove(done.size() - 1);
        }
    }

    // ---- what one wants, whose a mark is

    List<Integer> fits(int i, int tray, int n) {
        Pupil p = who(i);
        in(tray, 0, 3);
        in(n, 0, 20);
        long[] r = row(tray);
        must(r.length >= 2 * n, 3);
        for (int k = 0; k < 2 * n; k += 2) {
            must(r[k] >= 0 && r[k] < w.cells(), 5);
            must(r[k + 1] >= 0 && r[k + 1] <= 18, 5);
        }
        List<Integer> l = new ArrayList<>();
        for (int want = 0; want < 10; want++) {
            boolean ok = true;
            for (int k = 0; k < 2 * n; k += 2) if (w.caught(p, (int) r[k], want) != r[k + 1]) ok = false;
            if (ok) l.add(want);
        }
        return l;
    }

    private long ask(int[] a) {
        List<Integer> f = fits(a[0], a[1], a[2]);
        must(f.size() >= 2, 6);
        int best = -1, fewest = 99;
        for (int c = 0; c < w.cells(); c++) {
            Map<Integer, Integer> m = new HashMap<>();
            for (int want : f) m.merge(w.caught(w.pupils.get(a[0]), c, want), 1, Integer::sum);
            int most = 0;
            for (int v : m.values()) most = Math.max(most, v);
            if (most < fewest) { fewest = most; best = c; }
        }
        return best;
    }

    private long whose(int[] a) {
        in(a[0], 0, 3);
        in(a[1], 0, 20);
        long[] r = row(a[0]);
        must(r.length >= a[1], 3);
        for (int i = 0; i < a[1]; i++) must(r[i] >= 0 && r[i] < w.cells(), 5);
        int s = 0;
        for (int i = 0; i < w.pupils.size(); i++) {
            boolean ok = true;
            for (int k = 0; k < a[1]; k++) ok &= come(w.pupils.get(i)).containsKey((int) r[k]);
            if (ok) s += 1 << i;
        }
        return s;
    }

    // ---- games, odds

    boolean escapes(Pupil p, Pupil q, int a, int b, int n) {
        if (a == b) return false;
        if (n == 0) return true;
        for (int side = 0; side < 5; side++) if (good(p, q, a, b, n, side)) return true;
        return false;
    }

    boolean good(Pupil p, Pupil q, int a, int b, int n, int side) {
        int c = side == 4 ? a : w.to(a, side);
        if (c < 0 || c == b || side < 4 && w.caught(p, c, p.want) > 0) return false;
        for (int s = 0; s < 5; s++) {
            int d = s == 4 ? b : w.to(b, s);
            if (d < 0 || s < 4 && w.caught(q, d, q.want) > 0) continue;
            if (!escapes(p, q, c, d, n - 1)) return false;
        }
        return true;
    }

    private long moveOf(int[] a) {
        two(a);
        in(a[2], 1, 4);
        Pupil p = w.pupils.get(a[0]), q = w.pupils.get(a[1]);
        must(p.cell != q.cell, 6);
        for (int side = 0; side < 5; side++) if (good(p, q, p.cell, q.cell, a[2], side)) return side;
        throw new Bad(6);
    }

    private long slips(int n, int k) {
        in(n, 0, 12);
        in(k, 0, 12);
        BigInteger[] by = {BigInteger.ONE};
        for (int i = 0; i < n; i++) {
            BigInteger[] next = new BigInteger[by.length + 1];
            Arrays.fill(next, BigInteger.ZERO);
            for (int s = 0; s < by.length; s++) {
                next[s] = next[s].add(by[s].multiply(BigInteger.valueOf(16 - w.odds)));
                next[s + 1] = next[s + 1].add(by[s].multiply(BigInteger.valueOf(w.odds)));
            }
            by = next;
        }
        BigInteger sum = BigInteger.ZERO;
        for (int s = k; s < by.length; s++) sum = sum.add(by[s]);
        tell(sum, BigInteger.valueOf(16).pow(n));
        return 1;
    }

    void tell(BigInteger a, BigInteger b) {
        BigInteger g = a.gcd(b);
        top = a.divide(g);
        bottom = b.divide(g);
    }

    // ---- AUTUMNS

    static final class Over extends RuntimeException {
        Over() { super(null, null, false, false); }
    }

    private int drawn;

    int draw(int n) {
        drawn = (int) ((drawn * 3251L + 11467) % 65536);
        return drawn / 8 % n;
    }

    void live(int seed) {
        livedNow = new int[6];
        drawn = seed;
        try {
            run(w.autumns);
        } catch (Over o) {
            return;
        }
    }

    void run(List<Node> l) {
        for (Node n : l) {
            if (livedNow[5] == 300) {
                livedNow[4] = 1;
                throw new Over();
            }
            livedNow[5]++;
            if (n.word.equals("stop")) throw new Over();
            if (n.word.equals("loop")) {
                for (int i = 0; i < n.n; i++) run(n.body);
            } else if (n.word.equals("when")) {
                if (holds(n)) run(n.body);
            } else {
                try {
                    act(n);
                } catch (Bad b) {
                    livedNow[0]++;
                }
            }
        }
    }

    boolean holds(Node n) {
        if (n.test.equals("thorns")) return compare(w.thorns.getOrDefault(n.a, 0), n.sign, n.n);
        Pupil p = w.pupils.get(n.a);
        if (n.test.equals("caught")) return p.caught > 0;
        if (n.test.equals("at")) return p.cell == n.n;
        return compare(p.knows.size(), n.sign, n.n);
    }

    boolean compare(int a, char sign, int b) {
        return sign == '<' && a < b || sign == '>' && a > b || sign == '=' && a == b;
    }

    void act(Node n) {
        switch (n.word) {
            case "go": step(n.a, n.b); break;
            case "free": if (free(n.a, n.b)) livedNow[3]++; break;
            case "tear": tear(n.a); break;
            case "pick": pick(n.a); break;
            case "year": years(n.n); break;
            default:
                must(!w.pupils.isEmpty(), 7);
                int p = draw(w.pupils.size());
                int side = draw(4);
                if (w.pupils.get(p).caught > 0) tear(p);
                else step(p, side);
        }
    }

    void step(int p, int side) {
        int c = go(p, side);
        livedNow[1]++;
        livedNow[2] += c;
    }
}
