/** Promises 11, 51 to 53: AUTUMNS as a text, LIVED, the mean of them. */
public final class AutumnsTest {
    private static final Check CHECK = new Check();
    private static final String TWO = "lesson l hours 1;pupil p at 0;pupil q at 5;";

    public static void main(String[] args) {
        takesAutumns();
        faultsOfKindsOneAndTwo();
        faultsOfOtherKinds();
        oldOnesStay();
        wrongAutumns();
        stepsOneByOne();
        missed();
        missedByYears();
        tests();
        loops();
        threeHundred();
        draws();
        drawsOfOne();
        wrongLives();
        livedStays();
        means();
        wrongMeans();
        CHECK.end();
    }

    private static void taken(String text, int steps) {
        ThornSchool x = Check.with(TWO);
        CHECK.done(x, text, Check.autumns(x, text), steps);
        CHECK.same(text + ", its fault", x.fault(0), 0);
        CHECK.same(text + ", its place", x.fault(1), -1);
    }

    private static void fault(String text, int fault, int place) {
        ThornSchool x = Check.with(TWO);
        CHECK.fault(x, text, Check.autumns(x, text), fault, place);
    }

    private static void takesAutumns() {
        taken("", 0);
        taken("any;", 1);
        taken("go p left;go p right;go p up;go q down;", 4);
        taken("free p q;free p p;tear p;pick q;year 1;year 20;any;stop;", 8);
        taken("when caught p;end;when at q 15;end;when knows p<0;end;when knows p > 9;end;when thorns 15=9;end;", 5);
        taken("loop 1;loop 99;when caught p;any;end;end;end;", 4);
        taken("loop 1;loop 1;loop 1;end;loop 1;end;end;end;loop 1;end;", 5);
        taken("any;".repeat(30), 30);
        taken("loop 2;end;".repeat(15) + "any;".repeat(15), 30);
        taken("loop1;end;".repeat(30), 30);
        ThornSchool x = Check.with(TWO);
        CHECK.fault(x, "loops left open", Check.autumns(x, "loop9;end;".repeat(27) + "loop3;loop3;any;"), 2, 286);
        CHECK.fault(x, "no end of what a faulty text began", Check.autumns(x, "any;end;"), 2, 4);
        CHECK.done(x, "as many places as there can be", Check.autumns(x, "loop9;end;".repeat(29) + "loop9;end;"), 30);
        lives("as many places as there can be", x, 0, 30, 0, 0, 0, 0, 0);
        CHECK.done(x, "the deepest at the end", Check.autumns(x, "loop1;end;".repeat(26) + "loop2;loop2;loop2;end;end;end;"), 29);
        lives("the deepest at the end", x, 0, 26 + 1 + 2 + 4, 0, 0, 0, 0, 0);
    }

    private static void faultsOfKindsOneAndTwo() {
        fault("any;A", 1, 4);
        fault("year 00001;", 1, 5);
        fault("year -1;", 1, 5);
        fault("when knows p ? 1;", 1, 13);
        fault("any", 2, 3);
        fault("21;", 2, 0);
        fault("26;", 2, 0);
        fault("12 p left;", 2, 0);
        fault("loop 1;25;", 2, 7);
        fault("go p 13;", 2, 5);
        fault("when 23 p;", 2, 5);
        fault("when knows p 60 1;", 2, 13);
        fault("any<", 2, 3);
        fault("any ", 2, 4);
        fault(";", 2, 0);
        fault("p", 2, 0);
        fault("odds 1;", 2, 0);
        fault("caught p;", 2, 0);
        fault("left;", 2, 0);
        fault("any p;", 2, 4);
        fault("stop 1;", 2, 5);
        fault("go left;", 2, 3);
        fault("go p;", 2, 4);
        fault("go p at;", 2, 5);
        fault("go p q;", 2, 5);
        fault("go p free;", 2, 5);
        fault("go p left", 2, 9);
        fault("go abcdefghi left;", 2, 3);
        fault("free p;", 2, 6);
        fault("free p q p;", 2, 9);
        fault("free p left;", 2, 7);
        fault("tear;", 2, 4);
        fault("tear 1;", 2, 5);
        fault("pick;", 2, 4);
        fault("year;", 2, 4);
        fault("year p;", 2, 5);
        fault("loop;", 2, 4);
        fault("when;", 2, 4);
        fault("when p;", 2, 5);
        fault("when go;", 2, 5);
        fault("when caught 1;", 2, 12);
        fault("when at p;", 2, 9);
        fault("when at p < 1;", 2, 10);
        fault("when knows p 1;", 2, 13);
        fault("when knows p;", 2, 12);
        fault("when knows p <;", 2, 14);
        fault("when thorns < 1;", 2, 12);
        fault("when thorns 1 1;", 2, 14);
        fault("when thorns 1 <> 1;", 2, 15);
        fault("end;", 2, 0);
        fault("any;end;", 2, 4);
        fault("loop 1;end;end;", 2, 11);
        fault("loop 1;end", 2, 10);
        fault("loop 1;any;", 2, 11);
        fault("loop 1;when caught p;end; ", 2, 26);
        fault("loop 1 any;", 2, 7);
    }

    private static void faultsOfOtherKinds() {
        fault("go r left;", 3, 3);
        fault("go l left;", 3, 3);
        fault("free r p;", 3, 5);
        fault("free p r;", 3, 7);
        fault("tear l;", 3, 5);
        fault("pick r;", 3, 5);
        fault("when caught r;", 3, 12);
        fault("when at r 0;", 3, 8);
        fault("when knows l < 1;", 3, 11);
        fault("year 0;", 4, 5);
        fault("year 21;", 4, 5);
        fault("loop 0;", 4, 5);
        fault("loop 100;", 4, 5);
        fault("when at p 16;", 4, 10);
        fault("when knows p < 10;", 4, 15);
        fault("when thorns 16 < 1;", 4, 12);
        fault("when thorns 0 < 10;", 4, 16);
        fault("any;".repeat(30) + "any;", 6, 120);
        fault("any;".repeat(30) + "end;", 2, 120);
        fault("any;".repeat(30) + "x;", 2, 120);
        fault("any;".repeat(30) + "go r", 6, 120);
        fault("loop 2;end;".repeat(15) + "any;".repeat(15) + "loop", 6, 225);
        fault("loop 1;loop 1;loop 1;loop 1;", 7, 21);
        fault("loop 1;loop 1;loop 1;when", 7, 21);
        fault("when caught p;when caught p;loop 1;any;when", 7, 39);
        fault("loop 1;loop 1;loop 1;end;loop 1;loop", 7, 32);
        fault("any;".repeat(27) + "loop 1;loop 1;loop 1;loop 1;", 6, 129);
        ThornSchool x = Check.with("thicket 2 by 1;pupil p at 0;");
        CHECK.fault(x, "no cell 2", Check.autumns(x, "when at p 2;end;"), 4, 10);
        CHECK.done(x, "cell 1", Check.autumns(x, "when at p 1;end;"), 1);
        x.come(0);
        CHECK.fault(x, "who came has no name", Check.autumns(x, "tear q;"), 3, 5);
    }

    private static void oldOnesStay() {
        ThornSchool x = Check.with(TWO);
        Check.autumns(x, "any;any;");
        Check.feed(x, "any;any;tear r;");
        CHECK.fault(x, "autumns", x.autumns(15), 3, 13);
        CHECK.none(x, "the tape is empty then", x.autumns(1), 1);
        CHECK.same("the fault stays", x.fault(0), 3);
        CHECK.same("the autumns stay", x.live(0), 2);
        Check.feed(x, "any;any;any;any;any;");
        CHECK.none(x, "below 0", x.autumns(-1), 1);
        CHECK.none(x, "more than there is", x.autumns(21), 1);
        CHECK.done(x, "the first bytes alone", x.autumns(12), 3);
        CHECK.none(x, "the rest is gone", x.autumns(1), 1);
        CHECK.same("the new ones", x.live(0), 3);
    }

    private static void wrongAutumns() {
        ThornSchool x = Check.with(TWO);
        Check.feed(x, " ".repeat(296) + "any;any;");
        CHECK.none(x, "301 bytes", x.autumns(301), 1);
        CHECK.done(x, "300 bytes", x.autumns(300), 1);
        CHECK.done(x, "of no steps", x.autumns(0), 0);
        CHECK.done(x, "there are some, of no steps", x.live(0), 0);
    }

    private static void lives(String what, ThornSchool x, int seed, int... due) {
        CHECK.done(x, what + ": steps", x.live(seed), due[0]);
        for (int i = 1; i < due.length; i++) CHECK.done(x, what + ": lived " + (i - 1), x.lived(i - 1), due[i]);
    }

    private static void stepsOneByOne() {
        ThornSchool x = Check.with("thicket 3 by 2;thorns 1 2;berries 1 4;berries 0 3;lesson l hours 1;pupil p at 0 want 1;pupil q at 3;");
        Check.autumns(x, "pick q;pick p;go p right;free q p;go q right;free q p;free q p;free q p;pick p;year 3;go q up;tear q;stop;any;");
        lives("steps", x, 0, 13, 2, 3, 8, 1, 0);
        CHECK.same("p picked twice", x.pupil(0, 4), 7);
        CHECK.same("p learnt", x.pupil(0, 2), 1);
        CHECK.same("p is at 1", x.pupil(0, 0), 1);
        CHECK.same("q is at 1", x.pupil(1, 0), 1);
        CHECK.same("q is torn", x.pupil(1, 5), 5);
        CHECK.same("3 years", x.told(5), 3);
        CHECK.same("thorns", x.cell(1, 0), 5);
        CHECK.same("berries", x.cell(1, 1), 3);
        lives("again, from how all is now", x, 0, 13, 8, 2, 0, 0, 0);
    }

    private static void missed() {
        ThornSchool x = Check.with("thicket 3 by 1;thorns 1 1;berries 1 1;pupil p at 0;pupil q at 1;pupil r at 2;");
        Check.autumns(x, "go p left;go p up;go p down;tear p;pick p;free p p;free p q;free p r;");
        lives("nothing can be", x, 0, 8, 8, 0, 0, 0, 0);
        Check.autumns(x, "go p right;go p left;pick p;free p q;free q q;go q left;go q right;free q r;");
        lives("of one caught", x, 0, 8, 5, 3, 2, 0, 0);
        CHECK.same("p, q are caught", x.told(8), 3);
        CHECK.same("q is caught again", x.pupil(1, 0), 1);
        CHECK.same("by 1", x.pupil(0, 3), 1);
        ThornSchool y = Check.with("thicket 3 by 1;thorns 0 2;pupil p at 1;pupil q at 2;");
        Check.autumns(y, "go p left;free q p;go q left;free q p;free q p;free q p;");
        lives("not so near, and without a lesson", y, 0, 6, 2, 2, 2, 0, 0);
        CHECK.same("free", y.told(8), 0);
    }

    private static void missedByYears() {
        ThornSchool x = Check.with("thorns 0 1;");
        for (int i = 0; i < 100; i++) x.year(99);
        for (int i = 0; i < 9; i++) x.year(10);
        x.plant(0, 0, 1);
        x.plant(0, 1, 0);
        Check.autumns(x, "year 10;year 9;year 1;");
        lives("beyond 9,999", x, 0, 3, 2, 0, 0, 0, 0);
        CHECK.same("the year", x.told(5), 9999);
        CHECK.same("9 at most", x.cell(0, 0), 9);
        ThornSchool y = Check.with("thorns 0 1;");
        Check.autumns(y, "year 3;");
        y.live(0);
        CHECK.same("3 thorns more", y.cell(0, 0), 4);
        CHECK.same("3 berries more", y.cell(0, 1), 3);
    }

    private static void tests() {
        String school = "thicket 3 by 1;thorns 2 4;lesson l hours 1;lesson m hours 1;pupil p at 1 knows l m;pupil q at 2;";
        String[] hold = {"at p 1", "at q 2", "knows p=2", "knows p<3", "knows p>1", "knows q=0", "thorns 2=4", "thorns 2<5", "thorns 2>3", "thorns 0=0"};
        String[] not = {"at p 2", "at q 1", "knows p=1", "knows p<2", "knows p>2", "knows q>0", "thorns 2=3", "thorns 2<4", "thorns 2>4", "thorns 0>0",
            "caught p", "caught q"};
        for (String t : hold) {
            ThornSchool x = Check.with(school);
            Check.autumns(x, "when " + t + ";any;end;any;");
            CHECK.same(t, x.live(1), 3);
        }
        for (String t : not) {
            ThornSchool x = Check.with(school);
            Check.autumns(x, "when " + t + ";any;end;any;");
            CHECK.same(t, x.live(1), 2);
        }
        ThornSchool x = Check.with(school);
        Check.autumns(x, "go p right;when caught p;when caught q;stop;end;tear p;end;when caught p;stop;end;");
        lives("when in a when", x, 0, 5, 0, 1, 2, 0, 0);
        CHECK.same("torn", x.told(10), 2);
    }

    private static void loops() {
        ThornSchool x = Check.with("thicket 5 by 1;pupil p at 0;");
        Check.autumns(x, "loop 3;go p right;end;");
        lives("a loop", x, 0, 4, 0, 3, 0, 0, 0);
        CHECK.same("he is at 3", x.pupil(0, 0), 3);
        Check.autumns(x, "loop 2;loop 2;go p left;end;go p right;end;");
        lives("a loop in a loop", x, 0, 9, 0, 6, 0, 0, 0);
        CHECK.same("he is at 1", x.pupil(0, 0), 1);
        Check.autumns(x, "loop 99;loop 99;loop 99;end;end;end;");
        lives("loops of nothing", x, 0, 300, 0, 0, 0, 0, 1);
        Check.autumns(x, "loop 99;loop 2;end;end;");
        lives("empty rounds", x, 0, 100, 0, 0, 0, 0, 0);
        Check.autumns(x, "loop 99;when at p 0;stop;end;go p left;end;");
        lives("stop ends all", x, 0, 5, 0, 1, 0, 0, 0);
        Check.autumns(x, "when at p 0;go p up;end;");
        lives("a when where a loop was stopped is no loop", x, 0, 2, 1, 0, 0, 0, 0);
        Check.autumns(x, "loop 1;go p left;end;go p right;");
        lives("once", x, 0, 3, 1, 1, 0, 0, 0);
    }

    private static void threeHundred() {
        ThornSchool x = Check.with("thicket 2 by 1;pupil p at 0;");
        Check.autumns(x, "loop 99;pick p;pick p;pick p;end;");
        lives("298 are enough", x, 0, 298, 297, 0, 0, 0, 0);
        Check.autumns(x, "loop 99;pick p;pick p;pick p;end;pick p;pick p;");
        lives("300, none left", x, 0, 300, 299, 0, 0, 0, 0);
        Check.autumns(x, "loop 99;pick p;pick p;pick p;end;pick p;loop 9;end;");
        lives("300 and an end, none left", x, 0, 300, 298, 0, 0, 0, 0);
        Check.autumns(x, "loop 99;pick p;pick p;pick p;end;pick p;when caught p;pick p;end;");
        lives("300 by a when that does not hold", x, 0, 300, 298, 0, 0, 0, 0);
        Check.autumns(x, "loop 99;pick p;pick p;pick p;end;pick p;loop 9;pick p;end;");
        lives("300, a step in a loop left", x, 0, 300, 298, 0, 0, 0, 1);
        Check.autumns(x, "loop 99;pick p;pick p;pick p;end;pick p;pick p;stop;");
        lives("300, a stop left", x, 0, 300, 299, 0, 0, 0, 1);
        Check.autumns(x, "loop 99;pick p;pick p;pick p;end;pick p;stop;pick p;");
        lives("a stop as the 300th", x, 0, 300, 298, 0, 0, 0, 0);
        Check.autumns(x, "loop 99;pick p;pick p;pick p;pick p;end;");
        lives("rounds left", x, 0, 300, 299, 0, 0, 0, 1);
        Check.autumns(x, "stop;pick p;");
        lives("not left by stop", x, 0, 1, 0, 0, 0, 0, 0);
    }

    /** The draws by the document: s times 3,251 and 11,467, by 65,536; the rest of s by 8, by n. */
    private static void draws() {
        for (int seed : new int[] {0, 1, 7, 42, 1234, 9999}) {
            ThornSchool x = Check.with("thicket 5 by 5;thorns 6 1;thorns 18 2;pupil p at 12;pupil q at 7;pupil r at 17;");
            Check.autumns(x, "loop 20;any;end;");
            int[] at = {12, 7, 17};
            int[] caught = {0, 0, 0};
            int torn = 0;
            int missed = 0;
            int went = 0;
            long s = seed;
            for (int i = 0; i < 20; i++) {
                s = (s * 3251 + 11467) % 65536;
                int p = (int) (s / 8 % 3);
                s = (s * 3251 + 11467) % 65536;
                int side = (int) (s / 8 % 4);
                if (caught[p] > 0) {
                    torn += caught[p];
                    caught[p] = 0;
                    continue;
                }
                int row = at[p] / 5 + (side == 3 ? 1 : side == 2 ? -1 : 0);
                int column = at[p] % 5 + (side == 1 ? 1 : side == 0 ? -1 : 0);
                if (row < 0 || row > 4 || column < 0 || column > 4) {
                    missed++;
                    continue;
                }
                went++;
                at[p] = row * 5 + column;
                caught[p] = at[p] == 6 ? 1 : at[p] == 18 ? 2 : 0;
            }
            CHECK.done(x, "steps", x.live(seed), 21);
            CHECK.same("missed by seed " + seed, x.lived(0), missed);
            CHECK.same("went by seed " + seed, x.lived(1), went);
            CHECK.same("torn by seed " + seed, x.told(10), torn);
            for (int i = 0; i < 3; i++) CHECK.same("where " + i + " is by seed " + seed, x.pupil(i, 0), at[i]);
        }
    }

    private static void drawsOfOne() {
        // by seed 0 s is 11467, then 700; by 8 that is 87, of which the rest by 4 is 3
        ThornSchool x = Check.with("thicket 3 by 3;pupil p at 4;");
        Check.autumns(x, "any;");
        lives("down", x, 0, 1, 0, 1, 0, 0, 0);
        CHECK.same("he is below", x.pupil(0, 0), 7);
        lives("down again, where there is no cell", x, 0, 1, 1, 0, 0, 0, 0);
        ThornSchool y = new ThornSchool();
        Check.autumns(y, "any;any;");
        lives("without pupils", y, 0, 2, 2, 0, 0, 0, 0);
        // by seed 6 the draws by 4 are 3, 2, 0, 3; both draws are made of one who is caught, too
        ThornSchool z = Check.with("thicket 3 by 4;thorns 7 3;pupil p at 4;");
        Check.autumns(z, "go p down;any;any;");
        lives("tears, then goes by the fourth draw", z, 6, 3, 0, 2, 3, 0, 0);
        CHECK.same("torn", z.told(10), 3);
        CHECK.same("where he is", z.pupil(0, 0), 10);
    }

    private static void wrongLives() {
        ThornSchool x = Check.with(TWO);
        CHECK.none(x, "no autumns", x.live(0), 6);
        CHECK.none(x, "seed -1", x.live(-1), 1);
        CHECK.none(x, "seed 10000", x.live(10000), 1);
        CHECK.none(x, "lived -1", x.lived(-1), 1);
        CHECK.none(x, "lived 5", x.lived(5), 1);
        CHECK.none(x, "none lived", x.lived(0), 6);
        Check.autumns(x, "any;");
        CHECK.none(x, "none lived yet", x.lived(0), 6);
        CHECK.done(x, "seed 9999", x.live(9999), 1);
        CHECK.done(x, "lived", x.lived(4), 0);
        CHECK.none(x, "lived 5", x.lived(5), 1);
    }

    private static void livedStays() {
        ThornSchool x = Check.with("thicket 3 by 1;thorns 1 2;pupil p at 0;pupil q at 0;");
        x.mark();
        Check.autumns(x, "go p right;go p right;");
        lives("lived", x, 0, 2, 1, 1, 2, 0, 0);
        x.live(-1);
        x.mean(0, 20);
        x.undo();
        CHECK.none(x, "no autumns again", x.live(0), 6);
        Check.school(x, "pupil z at 1;");
        int[] due = {1, 1, 2, 0, 0};
        for (int i = 0; i < due.length; i++) CHECK.done(x, "lived, still " + i, x.lived(i), due[i]);
        Check.autumns(x, "any;any;");
        CHECK.done(x, "not lived yet", x.lived(2), 2);
        x.live(3);
        CHECK.done(x, "lived anew", x.lived(2), 0);
    }

    private static void means() {
        ThornSchool x = Check.with("thicket 3 by 1;thorns 0 2;thorns 2 3;pupil p at 1;pupil q at 0;");
        Check.autumns(x, "go p left;tear p;");
        CHECK.fraction(x, "always alike", x.mean(0, 20), 2, 1);
        CHECK.same("he stays", x.pupil(0, 0), 1);
        CHECK.same("nobody is torn", x.told(10), 0);
        Check.autumns(x, "loop 5;any;end;");
        for (int seed : new int[] {0, 77, 9990}) {
            int many = 10;
            int torn = 0;
            for (int i = 0; i < many; i++) {
                x.mark();
                x.live(seed + i);
                torn += x.told(10);
                x.undo();
            }
            int g = 1;
            for (int d = 1; d <= many; d++) if (torn % d == 0 && many % d == 0) g = d;
            CHECK.fraction(x, "mean from " + seed, x.mean(seed, many), torn / g, torn == 0 ? 1 : many / g);
        }
        int[] told = {3, 1, 0, 2, 2, 0, 5, 0, 0, 0, 0};
        for (int i = 0; i < told.length; i++) CHECK.same("all stays " + i, x.told(i), told[i]);
        x.go(0, 0);
        x.tear(0);
        Check.autumns(x, "year 5;go p right;go p right;tear p;");
        CHECK.fraction(x, "with what he is torn by already", x.mean(9999, 1), 10, 1);
        CHECK.same("thorns stay", x.told(6), 5);
        CHECK.same("the year stays", x.told(5), 0);
        CHECK.same("torn stays", x.told(10), 2);
        x.autumns(0);
        CHECK.fraction(x, "of no steps", x.mean(0, 3), 2, 1);
    }

    private static void wrongMeans() {
        ThornSchool x = Check.with(TWO);
        CHECK.none(x, "no autumns", x.mean(0, 1), 6);
        CHECK.none(x, "many 0", x.mean(0, 0), 1);
        Check.autumns(x, "any;");
        CHECK.none(x, "many 0", x.mean(0, 0), 1);
        CHECK.none(x, "many 21", x.mean(0, 21), 1);
        CHECK.none(x, "many -1", x.mean(0, -1), 1);
        CHECK.none(x, "seed -1", x.mean(-1, 2), 1);
        CHECK.none(x, "seed 10000", x.mean(10000, 1), 1);
        CHECK.none(x, "the last above 9,999", x.mean(9981, 20), 1);
        CHECK.none(x, "far too many", x.mean(9999, Integer.MAX_VALUE), 1);
        CHECK.none(x, "far above", x.mean(Integer.MAX_VALUE, 20), 1);
        CHECK.none(x, "far below", x.mean(Integer.MIN_VALUE, 20), 1);
        CHECK.done(x, "the last is 9,999", x.mean(9980, 20));
        CHECK.done(x, "9,999 alone", x.mean(9999, 1));
    }
}
