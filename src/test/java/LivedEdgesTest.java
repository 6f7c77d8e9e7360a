/** The edges of AUTUMNS that are LIVED: 300 STEPS, TESTS, loops, what is MISSED, draws; MARKS OF ALL at their ends. */
public final class LivedEdgesTest {
    private static final Check CHECK = new Check();
    private static final String[] SIGNS = {"<", ">", "="};

    public static void main(String[] args) {
        threeHundredSteps();
        whatIsLeft();
        nothingOfTheNextStep();
        testsOfNumbers();
        testsOfPupils();
        loops();
        loopsInLoops();
        stops();
        missedOnes();
        countsOfALife();
        draws();
        noDrawsWithoutPupils();
        drawsOfTheCaught();
        seedsFromOneOn();
        livedTellsTheLatest();
        marksOfAll();
        CHECK.end();
    }

    /** STEPS come to, then what lived() tells, 0 to 4. */
    private static void lives(String what, ThornSchool x, int seed, int... due) {
        CHECK.done(x, what + ": steps", x.live(seed), due[0]);
        for (int i = 1; i < due.length; i++) CHECK.done(x, what + ": lived " + (i - 1), x.lived(i - 1), due[i]);
    }

    private static ThornSchool with(String school, String autumns) {
        ThornSchool x = Check.with(school);
        if (Check.autumns(x, autumns) < 0) throw new IllegalStateException("fault " + x.fault(0) + " at " + x.fault(1) + " of " + autumns);
        return x;
    }

    private static final String ONE = "thicket 2 by 1;pupil p at 0;";

    // ---- 300 STEPS: each pick of nothing is MISSED

    /** Autumns that come to so many STEPS, then go on; from 21 to 219 one of them is a loop, above two are. */
    private static String steps(int n) {
        StringBuilder b = new StringBuilder();
        int left = n;
        while (left > 20) {
            int rounds = Math.min(99, (left - 1) / 2);
            b.append("loop ").append(rounds).append(";pick p;pick p;end;");
            left -= 1 + 2 * rounds;
        }
        b.append("pick p;".repeat(left));
        return b.toString();
    }

    private static void threeHundredSteps() {
        for (int n : new int[] {0, 1, 2, 298, 299, 300}) CHECK.done(with(ONE, steps(n)), "so many steps: " + n, with(ONE, steps(n)).live(0), n);
        for (int n : new int[] {0, 1, 298, 299, 300}) {
            ThornSchool x = with(ONE, steps(n));
            CHECK.done(x, "steps", x.live(0), n);
            CHECK.done(x, "none left to be done of " + n, x.lived(4), 0);
        }
        for (int n : new int[] {301, 302, 350}) {
            ThornSchool x = with(ONE, steps(n));
            CHECK.done(x, "300 of " + n, x.live(0), 300);
            CHECK.done(x, "one is left of " + n, x.lived(4), 1);
        }
        // loop 99 of one STEP: 1 and 99; of three 1 and 297
        lives("100", with(ONE, "loop 99;pick p;end;"), 0, 100, 99, 0, 0, 0, 0);
        lives("298", with(ONE, "loop 99;pick p;pick p;pick p;end;"), 0, 298, 297, 0, 0, 0, 0);
        lives("two rounds of nothing", with(ONE, "loop 2;loop 99;end;loop 99;end;end;"), 0, 5, 0, 0, 0, 0, 0);
    }

    /** What stands behind 300 STEPS: whatever is a STEP is left to be done, an end is none. */
    private static void whatIsLeft() {
        for (String step : new String[] {"any;", "pick p;", "tear p;", "go p right;", "free p p;", "year 1;", "stop;", "loop 1;end;", "loop 9;any;end;", "when caught p;end;", "when at p 0;any;end;"}) {
            ThornSchool x = with(ONE, steps(300) + step);
            CHECK.done(x, "300 ahead of " + step, x.live(0), 300);
            CHECK.done(x, "left: " + step, x.lived(4), 1);
            CHECK.done(x, "missed ahead of " + step, x.lived(0), 300 - 2);
            x = with(ONE, steps(299) + step);
            x.live(0);
            boolean goesOn = step.equals("loop 9;any;end;") || step.equals("when at p 0;any;end;");
            CHECK.done(x, "299 ahead of " + step + " that goes on", x.lived(4), goesOn ? 1 : 0);
        }
        // behind the 300th the ends of a loop, of its last round, of a when
        lives("an end of the last round", with(ONE, steps(298) + "loop 1;pick p;end;"), 0, 300, 297, 0, 0, 0, 0);
        lives("an end of the last but one", with(ONE, steps(298) + "loop 2;pick p;end;"), 0, 300, 297, 0, 0, 0, 1);
        lives("three ends", with(ONE, steps(297) + "when at p 0;loop 1;pick p;end;end;"), 0, 300, 296, 0, 0, 0, 0);
        lives("rounds of nothing", with(ONE, steps(299) + "loop 99;end;"), 0, 300, 297, 0, 0, 0, 0);
        lives("a when that does not hold", with(ONE, steps(299) + "when caught p;pick p;end;"), 0, 300, 297, 0, 0, 0, 0);
        lives("a when that holds, of nothing", with(ONE, steps(299) + "when at p 0;end;"), 0, 300, 297, 0, 0, 0, 0);
        lives("a when that holds", with(ONE, steps(299) + "when at p 0;pick p;end;"), 0, 300, 297, 0, 0, 0, 1);
        lives("a stop as the last", with(ONE, steps(299) + "stop;pick p;"), 0, 300, 297, 0, 0, 0, 0);
        lives("a stop behind the last", with(ONE, steps(300) + "stop;"), 0, 300, 298, 0, 0, 0, 1);
    }

    private static void nothingOfTheNextStep() {
        ThornSchool x = with("thicket 2 by 1;thorns 1 1;pupil p at 0;", steps(300) + "go p right;");
        x.live(0);
        CHECK.same("not gone", x.pupil(0, 0), 0);
        CHECK.same("went", x.lived(1), 0);
        x = with("thicket 2 by 1;thorns 1 1;pupil p at 0;", steps(299) + "go p right;");
        x.live(0);
        CHECK.same("gone", x.pupil(0, 0), 1);
        CHECK.same("caught", x.lived(2), 1);
        x = with("thorns 0 1;pupil p at 0;", steps(300) + "year 9;");
        x.live(0);
        CHECK.same("no year", x.told(5), 0);
        x = with("thorns 0 1;pupil p at 0;", steps(299) + "year 9;");
        x.live(0);
        CHECK.same("years", x.told(5), 9);
    }

    // ---- TESTS

    private static boolean holds(int a, String sign, int b) {
        return sign.equals("<") ? a < b : sign.equals(">") ? a > b : a == b;
    }

    private static void testsOfNumbers() {
        String all = "a b c d e f g";
        String seven = "lesson a hours 1;lesson b hours 1;lesson c hours 1;lesson d hours 1;lesson e hours 1;lesson f hours 1;lesson g hours 1;";
        for (String sign : SIGNS) {
            for (int v = 0; v <= 9; v++) {
                for (int thorns = 0; thorns <= 9; thorns++) {
                    ThornSchool x = with("thicket 5 by 5;thorns 24 " + thorns + ";", "when thorns 24" + sign + v + ";any;end;");
                    CHECK.done(x, thorns + " thorns " + sign + v, x.live(0), holds(thorns, sign, v) ? 2 : 1);
                }
                for (int touch = 0; touch <= 7; touch++) {
                    ThornSchool x = with(seven + "pupil q at 0;pupil p at 0 knows " + all.substring(0, Math.max(0, 2 * touch - 1)) + ";", "when knows p" + sign + v + ";stop;end;stop;");
                    CHECK.done(x, touch + " lessons " + sign + v, x.live(0), 2);
                    CHECK.done(x, "nothing is left by stop", x.lived(4), 0);
                    x = with(seven + "pupil q at 0;pupil p at 0 knows " + all.substring(0, Math.max(0, 2 * touch - 1)) + ";", "when knows p" + sign + v + ";tear p;end;");
                    CHECK.done(x, touch + " lessons " + sign + v, x.live(0), holds(touch, sign, v) ? 2 : 1);
                }
            }
        }
    }

    private static void testsOfPupils() {
        for (int at = 0; at < 6; at++) {
            for (int cell = 0; cell < 6; cell++) {
                ThornSchool x = with("thicket 3 by 2;pupil q at 5;pupil p at " + at + ";", "when at p " + cell + ";any;end;");
                CHECK.done(x, "at " + at + " when at " + cell, x.live(3), at == cell ? 2 : 1);
            }
        }
        ThornSchool x = with("thicket 2 by 1;thorns 1 1;pupil p at 0;pupil q at 1;", "when caught p;any;end;when caught q;any;end;");
        CHECK.done(x, "nobody", x.live(0), 2);
        x.go(0, 1);
        x.tear(0);
        CHECK.done(x, "torn, not caught", x.live(0), 2);
        ThornSchool y = with("thicket 2 by 1;thorns 1 1;pupil p at 0;pupil q at 1;", "when caught p;stop;end;pick q;");
        y.go(0, 1);
        CHECK.done(y, "caught by one", y.live(0), 2);
        y.free(1, 0);
        CHECK.done(y, "freed", y.live(0), 2);
        CHECK.done(y, "not stopped", y.lived(0), 1);
    }

    // ---- loops, stop

    private static void loops() {
        for (int n : new int[] {1, 2, 50, 98, 99}) {
            ThornSchool x = with("thorns 0 1;", "loop " + n + ";year 1;end;");
            lives("a loop of " + n, x, 0, 1 + n, 0, 0, 0, 0, 0);
            CHECK.same("years", x.told(5), n);
            lives("again", x, 0, 1 + n, 0, 0, 0, 0, 0);
            CHECK.same("years", x.told(5), 2 * n);
        }
    }

    private static void loopsInLoops() {
        ThornSchool x = with(ONE, "loop 2;loop 3;loop 4;year 1;end;year 1;end;year 1;end;");
        // 1, then 2 times 1 and 1, then 6 times 1 and 1, then 24
        lives("loops in loops", x, 0, 1 + 2 * 2 + 6 * 2 + 24, 0, 0, 0, 0, 0);
        CHECK.same("years", x.told(5), 2 + 6 + 24);
        x = with(ONE, "loop 2;when at p 0;loop 3;year 1;end;go p right;end;end;");
        lives("the second round's when does not hold", x, 0, 1 + 1 + 1 + 3 + 1 + 1, 0, 1, 0, 0, 0);
        CHECK.same("years", x.told(5), 3);
        x = with(ONE, "loop 3;loop 1;end;loop 99;end;when caught p;year 1;end;end;");
        lives("beginnings count each time they are come to", x, 0, 1 + 3 * 3, 0, 0, 0, 0, 0);
        x = with(ONE, "loop 99;loop 99;loop 99;year 1;end;end;end;");
        lives("300 in the deepest", x, 0, 300, 0, 0, 0, 0, 1);
        CHECK.same("years", x.told(5), 300 - 2 - 2 - 1);
    }

    private static void stops() {
        lives("at once", with(ONE, "stop;year 1;"), 0, 1, 0, 0, 0, 0, 0);
        ThornSchool x = with(ONE, "loop 9;loop 9;year 1;stop;end;end;year 1;");
        lives("in loops", x, 0, 4, 0, 0, 0, 0, 0);
        CHECK.same("one year", x.told(5), 1);
        lives("anew from the beginning", x, 0, 4, 0, 0, 0, 0, 0);
        CHECK.same("two years", x.told(5), 2);
        lives("of no steps", with(ONE, " "), 0, 0, 0, 0, 0, 0, 0);
    }

    // ---- what is MISSED

    private static void missed(String school, String step, int due) {
        ThornSchool x = with(school, step);
        lives(step + " in " + school, x, 0, 1, due, 0);
    }

    private static void missedOnes() {
        String one = "thicket 1 by 1;thorns 0 9;berries 0 1;pupil p at 0;pupil q at 0;";
        for (String side : "left right up down".split(" ")) missed(one, "go p " + side + ";", 1);
        missed(one, "free p p;", 1);
        missed(one, "free p q;", 1);
        missed(one, "tear p;", 1);
        missed(one, "pick p;", 0);
        missed("thicket 1 by 1;thorns 0 9;pupil p at 0;", "pick p;", 1);
        missed(one, "year 20;", 0);
        missed("thicket 1 by 1;", "any;", 1);
        missed(one, "loop 1;end;", 0);
        missed(one, "when caught p;end;", 0);
        missed(one, "stop;", 0);
        // of one who is CAUGHT
        String two = "thicket 3 by 1;thorns 1 2;berries 1 3;pupil p at 0;pupil q at 1;pupil r at 2;pupil s at 0;";
        for (String step : new String[] {"go p left;", "go p right;", "go p up;", "free p q;", "free p p;", "pick p;", "free q r;"}) {
            ThornSchool x = with(two, step);
            x.go(0, 1);
            lives(step + " of one caught", x, 0, 1, 1, 0, 0, 0, 0);
            CHECK.same("caught still", x.pupil(0, 3), 2);
            CHECK.same("berries still", x.cell(1, 1), 3);
        }
        for (String step : new String[] {"free q p;", "free r p;", "free s p;", "tear p;"}) {
            ThornSchool x = with(two, step);
            x.go(0, 1);
            lives(step + " can be", x, 0, 1, 0, 0, 0, 0, 0);
            CHECK.same("fewer thorns", x.pupil(0, 3), step.startsWith("tear") ? 0 : 1);
        }
        ThornSchool x = with(two, "free s q;free r q;");
        x.go(1, 0);
        x.go(1, 1);
        CHECK.same("q is caught", x.told(8), 2);
        lives("from the left, from the right", x, 0, 2, 0, 0, 0, 0, 0);
        ThornSchool y = with("thicket 3 by 1;thorns 0 1;pupil p at 1;pupil q at 2;", "go p left;free q p;go q left;free q p;");
        lives("not so near", y, 0, 4, 1, 2, 1, 0, 0);
    }

    private static void countsOfALife() {
        // p is CAUGHT three times, LEARNS twice, TEARS once
        ThornSchool x = with("thicket 2 by 1;thorns 1 1;lesson a hours 1;lesson b hours 1 needs a;pupil p at 0 want 2;pupil q at 1;",
            "go p right;free q p;free q p;free q p;go p left;go p right;free q p;free q p;go p left;go p right;tear p;");
        lives("counts", x, 0, 11, 0, 5, 3 + 2 + 1, 2, 0);
        CHECK.same("torn", x.told(10), 1);
        // now he KNOWS two: a go to nowhere and four frees are MISSED, he is CAUGHT by 1 twice, LEARNS no more
        lives("counts begin anew", x, 0, 11, 5, 4, 2, 0, 0);
    }

    // ---- draws

    private static int state;

    private static int draw(int n) {
        state = (int) ((state * 3251L + 11467L) % 65536);
        return state / 8 % n;
    }

    private static void draws() {
        for (int pupils = 1; pupils <= 5; pupils++) {
            for (int seed : new int[] {0, 1, 8, 4999, 9998, 9999}) {
                int[] at = new int[pupils];
                StringBuilder b = new StringBuilder("thicket 5 by 5;");
                for (int p = 0; p < pupils; p++) {
                    at[p] = 5 * p + p;
                    b.append("pupil ").append((char) ('p' + p)).append(" at ").append(at[p]).append(";");
                }
                ThornSchool x = with(b.toString(), "loop 99;any;end;");
                int missed = 0;
                state = seed;
                for (int i = 0; i < 99; i++) {
                    int p = draw(pupils);
                    int side = draw(4);
                    boolean edge = side == 0 ? at[p] % 5 == 0 : side == 1 ? at[p] % 5 == 4 : side == 2 ? at[p] < 5 : at[p] >= 20;
                    if (edge) missed++;
                    else at[p] += new int[] {-1, 1, -5, 5}[side];
                }
                lives("draws by " + seed + " of " + pupils, x, seed, 100, missed, 99 - missed, 0, 0, 0);
                for (int p = 0; p < pupils; p++) CHECK.same("where " + p + " is by " + seed, x.pupil(p, 0), at[p]);
            }
        }
    }

    private static void noDrawsWithoutPupils() {
        lives("nobody", with("thicket 2 by 2;", "loop 99;any;end;"), 5, 100, 99, 0, 0, 0, 0);
        // who has come is drawn, too
        ThornSchool x = with("thicket 5 by 5;", "any;");
        x.come(12);
        state = 17;
        draw(1);
        int side = draw(4);
        lives("who came", x, 17, 1, 0, 1, 0, 0, 0);
        CHECK.same("where he goes", x.pupil(0, 0), 12 + new int[] {-1, 1, -5, 5}[side]);
    }

    /** A caught one TEARS himself free by any; both draws are made all the same. */
    private static void drawsOfTheCaught() {
        for (int seed = 0; seed < 40; seed++) {
            ThornSchool x = with("thicket 5 by 5;thorns 12 3;pupil p at 11;", "go p right;any;any;");
            state = seed;
            draw(1);
            draw(4);
            draw(1);
            int side = draw(4);
            lives("tears, then goes by seed " + seed, x, seed, 3, 0, 2, 3, 0, 0);
            CHECK.same("torn", x.pupil(0, 5), 3);
            CHECK.same("where he goes", x.pupil(0, 0), 12 + new int[] {-1, 1, -5, 5}[side]);
        }
    }

    private static void seedsFromOneOn() {
        String school = "thicket 3 by 3;thorns 1 2;thorns 3 1;thorns 7 3;pupil p at 4;pupil q at 0;";
        for (int first : new int[] {0, 1, 500, 9980}) {
            for (int many : new int[] {1, 2, 3, 7, 19, 20}) {
                int torn = 0;
                for (int i = 0; i < many; i++) {
                    ThornSchool y = with(school, "loop 7;any;end;");
                    y.live(first + i);
                    torn += y.told(10);
                }
                int g = many;
                while (torn % g != 0 || many % g != 0) g--;
                ThornSchool x = with(school, "loop 7;any;end;");
                CHECK.fraction(x, "mean of " + many + " from " + first, x.mean(first, many), torn / g, many / g);
            }
        }
        ThornSchool x = with(ONE, "year 1;");
        CHECK.fraction(x, "0 is 0 by 1", x.mean(0, 20), 0, 1);
        CHECK.same("no year goes by", x.told(5), 0);
    }

    private static void livedTellsTheLatest() {
        ThornSchool x = with("thicket 3 by 1;thorns 1 2;pupil p at 0;", "go p right;go p right;");
        for (int i = 0; i < 5; i++) CHECK.none(x, "none as yet", x.lived(i), 6);
        x.mean(0, 20);
        CHECK.none(x, "none by a mean", x.lived(0), 6);
        x.mark();
        x.live(0);
        int[] due = {1, 1, 2, 0, 0};
        x.live(10000);
        for (int i = 0; i < 5; i++) CHECK.done(x, "behind a live in vain " + i, x.lived(i), due[i]);
        x.mean(0, 3);
        for (int i = 0; i < 5; i++) CHECK.done(x, "behind a mean " + i, x.lived(i), due[i]);
        x.undo();
        for (int i = 0; i < 5; i++) CHECK.done(x, "behind undo " + i, x.lived(i), due[i]);
        Check.school(x, "pupil z at 0;");
        x.live(0);
        for (int i = 0; i < 5; i++) CHECK.done(x, "behind another school " + i, x.lived(i), due[i]);
        Check.autumns(x, "pick z;pick z;");
        for (int i = 0; i < 5; i++) CHECK.done(x, "behind other autumns " + i, x.lived(i), due[i]);
        x.live(0);
        int[] then = {2, 0, 0, 0, 0};
        for (int i = 0; i < 5; i++) CHECK.done(x, "of the latest " + i, x.lived(i), then[i]);
    }

    // ---- MARKS OF ALL

    private static void marksOfAll() {
        ThornSchool x = new ThornSchool();
        CHECK.none(x, "none", x.undo(), 6);
        for (int round = 0; round < 3; round++) {
            for (int i = 1; i <= 3; i++) {
                CHECK.done(x, "mark", x.mark(), i);
                x.rule(i);
            }
            for (int i = 0; i < 2; i++) CHECK.none(x, "a fourth", x.mark(), 4);
            for (int i = 2; i >= 0; i--) {
                CHECK.done(x, "undo", x.undo(), i);
                CHECK.same("the odds", x.told(4), i == 0 ? 2 : i);
            }
            CHECK.none(x, "none left", x.undo(), 6);
        }
        // a MARK is gone by undo: the one ahead of it is the latest then
        x.rule(5);
        x.mark();
        x.rule(6);
        x.mark();
        x.undo();
        CHECK.same("by the second", x.told(4), 6);
        x.rule(7);
        CHECK.done(x, "the second again", x.mark(), 2);
        x.rule(8);
        x.undo();
        CHECK.same("by the new second", x.told(4), 7);
        x.undo();
        CHECK.same("by the first", x.told(4), 5);
    }
}
