/**
 * Each STATUS that a promise names: the call gives NONE or false, has it, changes nothing else; where two hold, the first
 * one is told. EdgesTest has STATUS 1 of each number.
 */
public final class RefusalsTest {
    private static final Check CHECK = new Check();
    private static final Trial FRESH = new Trial(CHECK, "fresh", ThornSchool::new);
    private static final Trial BUSY = new Trial(CHECK, "busy", Busy::busy);
    private static final Trial LAID = new Trial(CHECK, "laid", Busy::laid);
    private static final Trial LOOSE = new Trial(CHECK, "loose", Busy::loose);
    private static final Trial CAUGHT = new Trial(CHECK, "caught", Busy::caught);
    private static final Trial FULL = new Trial(CHECK, "full", Busy::full);
    private static final Trial BARE = new Trial(CHECK, "bare", Busy::bare);

    public static void main(String[] args) {
        ofFreshOnes();
        ofTrays();
        ofPours();
        ofTexts();
        ofTextsWithFaults();
        ofSteps();
        ofFreeing();
        ofTearingAndPicking();
        ofYears();
        ofTeaching();
        ofComing();
        ofWalks();
        ofThoseFreed();
        ofLessons();
        ofTwos();
        ofWhose();
        ofGames();
        ofChances();
        ofCopies();
        ofAutumns();
        ofMarks();
        CHECK.end();
    }

    private static void ofFreshOnes() {
        FRESH.none("school of a byte", x -> x.school(1), 1);
        FRESH.none("autumns of a byte", x -> x.autumns(1), 1);
        for (int t = 0; t < 4; t++) {
            int tray = t;
            FRESH.no("write", x -> x.write(tray, 0, 1), 2);
            FRESH.none("read", x -> x.read(tray, 0), 2);
            FRESH.no("pour", x -> x.pour(tray, 0, tray, 0, 0), 2);
            FRESH.none("whose", x -> x.whose(tray, 0), 2);
            FRESH.none("copyThorns", x -> x.copyThorns(tray), 2);
            FRESH.none("fits of nobody", x -> x.fits(0, tray, 0), 1);
        }
        FRESH.none("pupil", x -> x.pupil(0, 0), 1);
        FRESH.none("lesson", x -> x.lesson(0, 0), 1);
        FRESH.none("orderAt", x -> x.orderAt(0), 6);
        FRESH.none("live", x -> x.live(0), 6);
        FRESH.none("lived", x -> x.lived(0), 6);
        FRESH.no("mean", x -> x.mean(0, 1), 6);
        FRESH.none("undo", x -> x.undo(), 6);
    }

    private static void ofTrays() {
        BUSY.no("write to a missing one", x -> x.write(3, 0, 1), 2);
        BUSY.no("write to a missing one's no place", x -> x.write(3, -1, 1), 2);
        BUSY.no("write to no tray's no place", x -> x.write(4, -1, 1), 1);
        BUSY.none("read of a missing one", x -> x.read(3, 0), 2);
        BUSY.none("read of a missing one's no place", x -> x.read(3, 60), 2);
        BUSY.none("read of no tray's no place", x -> x.read(-1, 60), 1);
        BUSY.no("a tray that is there, by a wrong sort", x -> x.tray(1, 4, 40), 1);
        BUSY.no("a tray that is there, by too many", x -> x.tray(1, 3, 61), 1);
        BUSY.no("a tray that is missing, by too many", x -> x.tray(3, 3, 61), 1);
    }

    /** 1, 2, 8, 3 are asked in this order. */
    private static void ofPours() {
        BUSY.no("from no tray", x -> x.pour(4, 0, 0, 0, 1), 1);
        BUSY.no("to no tray", x -> x.pour(0, 0, 4, 0, 1), 1);
        BUSY.no("from a missing one", x -> x.pour(3, 0, 0, 0, 1), 2);
        BUSY.no("to a missing one", x -> x.pour(0, 0, 3, 0, 1), 2);
        BUSY.no("a missing one to itself", x -> x.pour(3, 0, 3, 0, 0), 2);
        BUSY.no("unlike", x -> x.pour(0, 0, 1, 0, 1), 8);
        BUSY.no("unlike, nothing", x -> x.pour(0, 0, 1, 0, 0), 8);
        BUSY.no("too few", x -> x.pour(0, 0, 0, 1, 4), 3);
        BUSY.no("1 ahead of 2: no tray", x -> x.pour(3, 0, 4, 0, 1), 1);
        BUSY.no("1 ahead of 2: place", x -> x.pour(3, -1, 0, 0, 1), 1);
        BUSY.no("1 ahead of 2: at", x -> x.pour(0, 0, 3, -1, 1), 1);
        BUSY.no("1 ahead of 2: many", x -> x.pour(3, 0, 3, 0, -1), 1);
        BUSY.no("1 ahead of 8", x -> x.pour(0, 0, 1, 0, -1), 1);
        BUSY.no("1 ahead of 3: place", x -> x.pour(0, -1, 0, 9, 9), 1);
        BUSY.no("1 ahead of 3: at", x -> x.pour(0, 9, 0, -1, 9), 1);
        BUSY.no("1 ahead of 3: many", x -> x.pour(0, 9, 0, 9, -1), 1);
        BUSY.no("2 ahead of 3", x -> x.pour(0, 9, 3, 9, 9), 2);
        BUSY.no("2 ahead of 3", x -> x.pour(3, 9, 0, 9, 9), 2);
        BUSY.no("8 ahead of 3", x -> x.pour(0, 9, 1, 9, 99), 8);
        BUSY.no("place and many above all numbers", x -> x.pour(0, Integer.MAX_VALUE, 0, Integer.MAX_VALUE, Integer.MAX_VALUE), 3);
        BUSY.no("three from the last", x -> x.pour(0, 3, 0, 0, 3), 3);
        BUSY.no("three to the last", x -> x.pour(0, 0, 0, 3, 3), 3);
        BUSY.yes("one from the last to the last", x -> x.pour(0, 3, 0, 3, 1));
    }

    private static void ofTexts() {
        BUSY.none("one byte more than the tape has", x -> x.school(21), 1);
        BUSY.none("below 0", x -> x.school(-1), 1);
        BUSY.none("autumns by one more", x -> x.autumns(21), 1);
        BUSY.none("autumns below 0", x -> x.autumns(-1), 1);
        FULL.none("901 bytes", x -> x.school(901), 1);
        FULL.none("301 of 900 bytes", x -> x.autumns(301), 1);
        FULL.none("900 bytes of autumns", x -> x.autumns(900), 1);
        Trial faulty = new Trial(CHECK, "a faulty tape", () -> {
            ThornSchool x = Busy.busy();
            for (int i = 0; i < 16; i++) Check.feed(x, "?".repeat(20));
            return x;
        });
        faulty.none("1 ahead of 9", x -> x.school(341), 1);
        faulty.none("1 ahead of 9", x -> x.autumns(301), 1);
        ThornSchool y = Busy.full();
        y.told(11);
        for (int i = 0; i < 3; i++) CHECK.same("a full tape takes no more", y.feed(0x6f646473, 0x20313b20, 0, 0, 0), -1);
        CHECK.same("feed has no status", y.status(), 1);
        CHECK.done(y, "the tape is as it was", y.school(900), 1);
        CHECK.same("its odds", y.told(4), 3);
    }

    /** By 9 nothing changes but the tape, which is empty then, and what fault() tells. */
    private static void ofTextsWithFaults() {
        String was = Seen.of(RefusalsTest::withAnEmptyTape);
        CHECK.yes("the fault is seen", was.contains("fault2 at4"));
        String[] schools = {"?", "thicket", "odds 9;thorns 0 9;pupil z at 16;", "odds 1;lesson l hours 1;pupil z at 0;pupil z at 0;", "pupil z at 0;odds 1;odds 1;"};
        int[] faults = {1, 2, 4, 3, 5};
        int[] places = {0, 7, 29, 43, 20};
        for (int i = 0; i < schools.length; i++) {
            String text = schools[i];
            CHECK.yes("only the tape and the fault: " + text, leftBy(text, true).equals(was.replace("fault2 at4", "fault" + faults[i] + " at" + places[i])));
        }
        String[] autumns = {"!", "any;end;", "any;go z up;", "year 21;", "any;".repeat(30) + "any;", "loop 1;loop 1;loop 1;loop 1;"};
        int[] kinds = {1, 2, 3, 4, 6, 7};
        int[] where = {0, 4, 7, 5, 120, 21};
        for (int i = 0; i < autumns.length; i++) {
            String text = autumns[i];
            CHECK.yes("only the tape and the fault: " + text, leftBy(text, false).equals(was.replace("fault2 at4", "fault" + kinds[i] + " at" + where[i])));
        }
    }

    /** What is seen of a busy object with an empty tape by a text that has a FAULT. */
    private static String leftBy(String text, boolean school) {
        return Seen.behind(RefusalsTest::withAnEmptyTape, x -> {
            Check.feed(x, text);
            long got = school ? x.school(text.length()) : x.autumns(text.length());
            CHECK.none(x, text, got, 9);
            return got;
        });
    }

    private static ThornSchool withAnEmptyTape() {
        ThornSchool x = Busy.busy();
        // a faulty text, too, empties it
        x.school(4);
        return x;
    }

    private static void ofSteps() {
        LAID.none("he is caught", x -> x.go(0, 0), 7);
        LAID.none("he is caught, there is no cell", x -> x.go(0, 2), 7);
        LAID.none("1 ahead of 7", x -> x.go(0, 4), 1);
        LAID.none("1 ahead of 7", x -> x.go(3, -1), 1);
        LAID.none("no cell above", x -> x.go(1, 2), 7);
        LAID.none("no cell to the right", x -> x.go(1, 1), 7);
        LAID.none("no cell below", x -> x.go(3, 3), 7);
        Trial left = new Trial(CHECK, "at the left", () -> Check.with("thicket 3 by 3;pupil p at 3;pupil q at 6;pupil r at 0;"));
        for (int i = 0; i < 3; i++) {
            int pupil = i;
            left.none("no cell to the left", x -> x.go(pupil, 0), 7);
        }
        Trial alone = new Trial(CHECK, "in one cell", () -> Check.with("thicket 1 by 1;thorns 0 9;pupil p at 0;"));
        for (int s = 0; s < 4; s++) {
            int side = s;
            alone.none("no cell to side " + s, x -> x.go(0, side), 7);
        }
    }

    private static void ofFreeing() {
        LAID.none("the pupil is caught", x -> x.free(0, 2), 7);
        LAID.none("the other one is not", x -> x.free(1, 2), 7);
        LAID.none("not so near", x -> x.free(3, 0), 7);
        LAID.none("1 ahead of 7: himself, caught", x -> x.free(0, 0), 1);
        LAID.none("himself, not caught", x -> x.free(1, 1), 1);
        LAID.none("1 ahead of 7: no such one by who is caught", x -> x.free(0, 4), 1);
        LAID.none("no such one", x -> x.free(4, 0), 1);
        CAUGHT.none("both are caught, in one cell", x -> x.free(0, 1), 7);
        CAUGHT.none("both are caught, beside", x -> x.free(0, 2), 7);
        LOOSE.none("neither is caught", x -> x.free(0, 2), 7);
    }

    private static void ofTearingAndPicking() {
        LAID.none("he is not caught", x -> x.tear(1), 7);
        LAID.none("who was torn is not", x -> x.tear(2), 7);
        LAID.none("he is caught, there are berries", x -> x.pick(0), 7);
        LAID.none("there are none", x -> x.pick(3), 7);
        Trial none = new Trial(CHECK, "no berries", () -> {
            ThornSchool x = Busy.caught();
            x.plant(1, 1, 0);
            return x;
        });
        none.none("he is caught, there are none", x -> x.pick(0), 7);
    }

    private static void ofYears() {
        for (int years : new int[] {1, 2, 99}) FULL.none("above 9,999", x -> x.year(years), 4);
        for (int years : new int[] {-1, 0, 100}) FULL.none("1 ahead of 4", x -> x.year(years), 1);
        Trial late = new Trial(CHECK, "late", () -> {
            ThornSchool x = Check.with("thorns 0 1;berries 1 1;");
            for (int i = 0; i < 100; i++) x.year(99);
            x.plant(0, 0, 1);
            x.plant(0, 1, 0);
            return x;
        });
        late.done("just to 9,999", x -> x.year(99), 9);
        Trial later = new Trial(CHECK, "later", () -> {
            ThornSchool x = Check.with("thorns 0 1;berries 1 1;");
            for (int i = 0; i < 100; i++) x.year(99);
            x.year(98);
            x.plant(0, 0, 1);
            x.plant(0, 1, 0);
            return x;
        });
        later.done("the last year", x -> x.year(1), 2);
        later.none("one too many: as a whole", x -> x.year(2), 4);
        later.none("far too many", x -> x.year(99), 4);
    }

    private static void ofTeaching() {
        LAID.no("he knows it", x -> x.teach(1, 0, true), 7);
        LAID.no("he knows it not", x -> x.teach(0, 0, false), 7);
        LAID.no("1 ahead of 7", x -> x.teach(1, 2, false), 1);
        LAID.no("no such lesson", x -> x.teach(1, -1, false), 1);
        LAID.no("no such pupil", x -> x.teach(4, 0, false), 1);
        LAID.yes("he knows it then", x -> x.teach(0, 0, true));
        LAID.yes("he knows it no more", x -> x.teach(1, 0, false));
        FULL.no("he knows the last", x -> x.teach(1, 6, true), 7);
        FULL.no("he knows not the last", x -> x.teach(0, 6, false), 7);
    }

    private static void ofComing() {
        FULL.none("a sixth", x -> x.come(0), 4);
        FULL.none("1 ahead of 4", x -> x.come(25), 1);
        FULL.none("1 ahead of 4", x -> x.come(-1), 1);
        LAID.done("a fifth", x -> x.come(0), 4);
        FRESH.done("the first", x -> x.come(15), 0);
        Trial five = new Trial(CHECK, "who came", () -> {
            ThornSchool x = new ThornSchool();
            for (int i = 0; i < 5; i++) x.come(i);
            return x;
        });
        five.none("a sixth", x -> x.come(0), 4);
    }

    private static void ofWalks() {
        for (int cell : new int[] {0, 2, 3, 4, 5}) {
            LAID.none("far of one who is caught", x -> x.far(0, cell), 6);
            LAID.none("way of one who is caught", x -> x.way(0, cell, 0), 6);
            LAID.no("chance of one who is caught", x -> x.chance(0, cell), 6);
        }
        LAID.asks("far of his own", x -> x.far(0, 1), 0);
        LAID.asks("way of his own", x -> x.way(0, 1, 0), 1);
        LAID.none("no such place on it", x -> x.way(0, 1, 1), 6);
        LOOSE.none("thorns", x -> x.far(0, 4), 6);
        LOOSE.none("thorns", x -> x.way(0, 4, 0), 6);
        LOOSE.none("behind thorns", x -> x.far(1, 3), 6);
        LOOSE.none("behind thorns", x -> x.way(1, 3, 0), 6);
        LOOSE.none("1 ahead of 6: k", x -> x.way(0, 4, -1), 1);
        LOOSE.none("1 ahead of 6: no such cell", x -> x.way(0, 6, 9), 1);
        LOOSE.none("no such place behind the last", x -> x.way(0, 5, 3), 6);
        LOOSE.none("by no want", x -> x.calm(0, 4), 6);
        LOOSE.none("by no want, who knows too little", x -> x.calm(1, 3), 6);
        LOOSE.none("1 ahead of 6", x -> x.calm(0, 6), 1);
    }

    private static void ofThoseFreed() {
        LAID.none("he is not caught", x -> x.helpers(1), 6);
        LAID.none("nor is who was torn", x -> x.helpers(2), 6);
        LAID.none("1 ahead of 6", x -> x.helpers(4), 1);
        LAID.none("he knows all", x -> x.learns(1), 6);
        LAID.none("1 ahead of 6", x -> x.learns(4), 1);
        FULL.none("he knows all seven", x -> x.learns(1), 6);
        Trial none = new Trial(CHECK, "no lessons", () -> Check.with("pupil p at 0;"));
        none.none("there is none", x -> x.learns(0), 6);
    }

    private static void ofLessons() {
        LAID.none("behind the last", x -> x.orderAt(2), 6);
        LAID.none("far behind", x -> x.orderAt(Integer.MAX_VALUE), 6);
        FULL.none("behind the seventh", x -> x.orderAt(7), 6);
        BARE.none("without any", x -> x.orderAt(0), 6);
        BARE.none("1 ahead of 6", x -> x.orderAt(-1), 1);
    }

    /** fits, fitsAt, ask by a TRAY of 40, 39 or fewer numbers, by numbers that can't be. */
    private static void ofTwos() {
        Trial t = new Trial(CHECK, "twos", RefusalsTest::withTwos);
        twos(t, "20 of 40 numbers", 0, 20, 0);
        twos(t, "20 of 39 numbers", 1, 20, 3);
        twos(t, "19 of 39 numbers", 1, 19, 0);
        twos(t, "a missing one", 3, 0, 2);
        twos(t, "2 ahead of 3", 3, 20, 2);
        twos(t, "1 ahead of 2", 3, 21, 1);
        twos(t, "1 ahead of 2", 3, -1, 1);
        twos(t, "3 ahead of 5", 2, 4, 3);
        twos(t, "5: the third's catch", 2, 3, 5);
        twos(t, "the first two alone", 2, 2, 0);
        twos(t, "none at all", 2, 0, 0);
        t.none("1 ahead of 2: no such pupil", x -> x.fits(4, 3, 1), 1);
        t.none("1 ahead of 3: no such pupil", x -> x.fits(4, 1, 20), 1);
        t.none("1 ahead of 5: no such pupil", x -> x.ask(4, 2, 3), 1);
        t.none("k: 1 ahead of 2", x -> x.fitsAt(0, 3, 1, -1), 1);
        t.none("k: 1 ahead of 3", x -> x.fitsAt(0, 1, 20, -1), 1);
        t.none("k: 1 ahead of 5", x -> x.fitsAt(0, 2, 3, -1), 1);
        t.none("2 ahead of 6", x -> x.fitsAt(0, 3, 1, 10), 2);
        t.none("3 ahead of 6", x -> x.fitsAt(0, 1, 20, 10), 3);
        t.none("5 ahead of 6", x -> x.fitsAt(0, 2, 3, 10), 5);
        t.none("6: no eleventh", x -> x.fitsAt(0, 0, 20, 10), 6);
        Trial one = new Trial(CHECK, "by 8 in 1", () -> rowOf(1, 8, 0, 0, 1, 19));
        one.asks("one", x -> x.fits(0, 2, 1), 1);
        one.asks("that is 2", x -> x.fitsAt(0, 2, 1, 0), 2);
        one.none("no second", x -> x.fitsAt(0, 2, 1, 1), 6);
        one.none("fewer than two", x -> x.ask(0, 2, 1), 6);
        one.none("5 ahead of 6", x -> x.ask(0, 2, 3), 5);
        Trial nobody = new Trial(CHECK, "by 1 where nothing grows", () -> rowOf(0, 1));
        nobody.asks("none", x -> x.fits(0, 2, 1), 0);
        nobody.none("no first", x -> x.fitsAt(0, 2, 1, 0), 6);
        nobody.none("fewer than two", x -> x.ask(0, 2, 1), 6);
        // q KNOWS two: by 1 thorn he is CAUGHT by nothing as long as he WANTS 0 or 1
        Trial two = new Trial(CHECK, "two are enough", () -> {
            ThornSchool x = rowOf(3, 0);
            x.plant(3, 0, 1);
            return x;
        });
        two.asks("two", x -> x.fits(1, 2, 1), 2);
        two.asks("ask", x -> x.ask(1, 2, 1), 1);
    }

    private static ThornSchool withTwos() {
        ThornSchool x = Busy.busy();
        Check.row(x, 0, new long[40]);
        Check.row(x, 1, new long[39]);
        Check.row(x, 2, 0, 0, 5, 0, 3, 19);
        return x;
    }

    private static ThornSchool rowOf(long... v) {
        ThornSchool x = Busy.busy();
        Check.row(x, 2, v);
        return x;
    }

    private static void twos(Trial t, String what, int tray, int n, int status) {
        if (status == 0) {
            t.asks("fits by " + what, x -> x.fits(0, tray, n), 10);
            t.asks("fitsAt by " + what, x -> x.fitsAt(0, tray, n, 9), 9);
            t.asks("ask by " + what, x -> x.ask(0, tray, n), 1);
        } else {
            t.none("fits by " + what, x -> x.fits(0, tray, n), status);
            t.none("fitsAt by " + what, x -> x.fitsAt(0, tray, n, 0), status);
            t.none("ask by " + what, x -> x.ask(0, tray, n), status);
        }
    }

    private static void ofWhose() {
        Trial t = new Trial(CHECK, "whose", () -> {
            ThornSchool x = Busy.loose();
            x.tray(3, 0, 20);
            Check.row(x, 2, 5, 0, 6, -1);
            return x;
        });
        t.asks("20 of 20", x -> x.whose(3, 20), 5);
        t.none("1: 21", x -> x.whose(3, 21), 1);
        t.asks("none", x -> x.whose(2, 0), 15);
        t.asks("two", x -> x.whose(2, 2), 5);
        t.none("5: the third", x -> x.whose(2, 3), 5);
        t.none("5: the third, the fourth", x -> x.whose(2, 4), 5);
        t.none("3 ahead of 5", x -> x.whose(2, 5), 3);
        t.none("1 ahead of 3", x -> x.whose(2, -1), 1);
        BUSY.none("2: missing", x -> x.whose(3, 0), 2);
        BUSY.none("2 ahead of 3", x -> x.whose(3, 20), 2);
        BUSY.none("1 ahead of 2", x -> x.whose(3, 21), 1);
    }

    private static void ofGames() {
        Trial t = new Trial(CHECK, "in one cell", () -> Check.with("thicket 5 by 5;pupil p at 12;pupil q at 12;"));
        for (int n = 1; n <= 4; n++) {
            int turns = n;
            t.none("he can't", x -> x.moveOf(0, 1, turns), 6);
            t.asks("no game", x -> x.game(0, 1, turns), 0);
        }
        t.asks("no game without a turn", x -> x.game(0, 1, 0), 0);
        t.none("1 ahead of 6: no turn", x -> x.moveOf(0, 1, 0), 1);
        t.none("1 ahead of 6: five turns", x -> x.moveOf(0, 1, 5), 1);
        t.none("1 ahead of 6: himself", x -> x.moveOf(0, 0, 1), 1);
        Trial corner = new Trial(CHECK, "in the corner", () -> Check.with("thicket 5 by 1;pupil p at 0;pupil q at 1;"));
        corner.none("he can't", x -> x.moveOf(0, 1, 1), 6);
        corner.asks("no move, but as yet he is alone", x -> x.game(0, 1, 0), 1);
    }

    private static void ofChances() {
        Trial t = new Trial(CHECK, "a long way", () -> Check.with("thicket 5 by 5;odds 4;thorns 1 1;thorns 6 1;thorns 11 1;thorns 16 1;thorns 8 1;thorns 13 1;thorns 18 1;thorns 23 1;pupil p at 0;"));
        t.no("16 steps", x -> x.chance(0, 24), 6);
        t.yes("15 steps", x -> x.chance(0, 19));
        t.no("thorns", x -> x.chance(0, 1), 6);
        t.no("1 ahead of 6", x -> x.chance(1, 24), 1);
        LOOSE.no("he can't come there", x -> x.chance(0, 4), 6);
        LAID.no("slips: k", x -> x.slips(13, -1), 1);
    }

    private static void ofCopies() {
        BUSY.none("a missing one", x -> x.copyThorns(3), 2);
        BUSY.none("too few places", x -> x.copyThorns(0), 3);
        Trial five = new Trial(CHECK, "rows of 5, 6", () -> {
            ThornSchool x = Busy.busy();
            x.tray(0, 0, 5);
            x.write(0, 4, 7);
            x.tray(1, 0, 6);
            return x;
        });
        five.none("one place too few", x -> x.copyThorns(0), 3);
        five.done("just so many", x -> x.copyThorns(1), 6);
        five.none("no tray", x -> x.copyThorns(4), 1);
    }

    private static void ofAutumns() {
        BARE.none("no autumns", x -> x.live(0), 6);
        BARE.none("1 ahead of 6", x -> x.live(-1), 1);
        BARE.none("1 ahead of 6", x -> x.live(10000), 1);
        BARE.no("no autumns", x -> x.mean(0, 1), 6);
        BARE.no("no autumns", x -> x.mean(9980, 20), 6);
        BARE.no("1 ahead of 6", x -> x.mean(0, 0), 1);
        BARE.no("1 ahead of 6", x -> x.mean(0, 21), 1);
        BARE.no("1 ahead of 6", x -> x.mean(9981, 20), 1);
        for (int i = 0; i < 5; i++) {
            int what = i;
            BARE.none("none lived", x -> x.lived(what), 6);
        }
        BARE.none("1 ahead of 6", x -> x.lived(5), 1);
        BARE.none("1 ahead of 6", x -> x.lived(-1), 1);
        Trial taken = new Trial(CHECK, "by a school no autumns", () -> {
            ThornSchool x = Busy.busy();
            x.school(0);
            return x;
        });
        taken.none("no autumns", x -> x.live(0), 6);
        taken.no("no autumns", x -> x.mean(0, 1), 6);
    }

    private static void ofMarks() {
        FULL.none("a fourth", x -> x.mark(), 4);
        FULL.done("undo of three", x -> x.undo(), 2);
        BUSY.done("undo of one", x -> x.undo(), 0);
        BUSY.done("mark", x -> x.mark(), 2);
        Trial none = new Trial(CHECK, "without marks", () -> {
            ThornSchool x = Busy.busy();
            x.undo();
            return x;
        });
        none.none("undo", x -> x.undo(), 6);
        none.done("mark", x -> x.mark(), 1);
        Trial two = new Trial(CHECK, "two marks", () -> {
            ThornSchool x = Busy.busy();
            x.mark();
            return x;
        });
        two.done("the third", x -> x.mark(), 3);
    }
}
