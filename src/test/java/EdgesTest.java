import java.util.function.Supplier;

/**
 * Each number that a call takes, on both sides: the least and the greatest one that are taken, with their answers, and
 * the first ones that are not, by which nothing else may change.
 */
public final class EdgesTest {
    private static final Check CHECK = new Check();

    private interface Call {
        long by(ThornSchool x, int v);
    }

    private interface Truth {
        boolean by(ThornSchool x, int v);
    }

    public static void main(String[] args) {
        ofTrays();
        ofTexts();
        ofTold();
        ofDeeds();
        ofWalks();
        ofThoseFreed();
        ofLessons();
        ofFits();
        ofWhose();
        ofGames();
        ofOdds();
        ofAutumns();
        ofAFullSchool();
        ofABareSchool();
        CHECK.end();
    }

    /** Numbers from least to most are taken; others have STATUS 1. */
    private static void edges(String what, Supplier<ThornSchool> made, Call call, int least, int most, long byLeast, long byMost) {
        edges(what, made, call, least, most, byLeast, byMost, 1, 1);
    }

    private static void edges(String what, Supplier<ThornSchool> made, Call call, int least, int most, long byLeast, long byMost, int below, int above) {
        Trial trial = new Trial(CHECK, what, made);
        trial.done("by " + least, x -> call.by(x, least), byLeast);
        trial.done("by " + most, x -> call.by(x, most), byMost);
        for (int v : below(least)) trial.none("by " + v, x -> call.by(x, v), below);
        for (int v : above(most)) trial.none("by " + v, x -> call.by(x, v), above);
    }

    /** Likewise of calls that answer true or false. */
    private static void truths(String what, Supplier<ThornSchool> made, Truth call, int least, int most) {
        truths(what, made, call, least, most, 1, 1);
    }

    private static void truths(String what, Supplier<ThornSchool> made, Truth call, int least, int most, int below, int above) {
        Trial trial = new Trial(CHECK, what, made);
        trial.yes("by " + least, x -> call.by(x, least));
        trial.yes("by " + most, x -> call.by(x, most));
        for (int v : below(least)) trial.no("by " + v, x -> call.by(x, v), below);
        for (int v : above(most)) trial.no("by " + v, x -> call.by(x, v), above);
    }

    private static int[] below(int least) {
        return new int[] {Integer.MIN_VALUE, -2147483600, least - 1};
    }

    private static int[] above(int most) {
        return new int[] {most + 1, 2147483600, Integer.MAX_VALUE};
    }

    private static void ofTrays() {
        truths("tray", Busy::laid, (x, v) -> x.tray(v, 0, 1), 0, 3);
        truths("tray, sort", Busy::laid, (x, v) -> x.tray(0, v, 1), 0, 3);
        truths("tray, many", Busy::laid, (x, v) -> x.tray(0, 0, v), 0, 60);
        truths("write", Busy::laid, (x, v) -> x.write(v, 0, 9), 0, 3);
        truths("write, place of 4", Busy::laid, (x, v) -> x.write(0, v, 9), 0, 3, 3, 3);
        truths("write, place of 60", Busy::laid, (x, v) -> x.write(3, v, 9), 0, 59, 3, 3);
        edges("read", Busy::laid, (x, v) -> x.read(v, 0), 0, 3, 5, 0);
        edges("read, place of 4", Busy::laid, (x, v) -> x.read(0, v), 0, 3, 5, 0, 3, 3);
        edges("read, place of 40", Busy::laid, (x, v) -> x.read(1, v), 0, 39, 0, 0, 3, 3);
        truths("pour from", Busy::laid, (x, v) -> x.pour(v, 0, v & 3, 0, 1), 0, 3);
        truths("pour to", Busy::laid, (x, v) -> x.pour(v & 3, 0, v, 0, 1), 0, 3);
        truths("pour, place", Busy::laid, (x, v) -> x.pour(0, v, 0, 0, 1), 0, 3, 1, 3);
        truths("pour, at", Busy::laid, (x, v) -> x.pour(0, 0, 0, v, 1), 0, 3, 1, 3);
        truths("pour, many", Busy::laid, (x, v) -> x.pour(0, 0, 0, 0, v), 0, 4, 1, 3);
        truths("pour, many from 1 on", Busy::laid, (x, v) -> x.pour(0, 1, 0, 0, v), 0, 3, 1, 3);
        truths("pour, many to 3 on", Busy::laid, (x, v) -> x.pour(0, 0, 0, 3, v), 0, 1, 1, 3);
        truths("pour, many of 60", Busy::laid, (x, v) -> x.pour(3, 0, 3, 0, v), 0, 60, 1, 3);
    }

    private static ThornSchool withAutumnsOnTheTape() {
        ThornSchool x = Busy.laid();
        x.school(0);
        Check.school(x, "pupil p at 0;pupil q at 1;");
        Check.feed(x, "loop 2;any;end;stop;");
        return x;
    }

    private static ThornSchool withALongTape() {
        ThornSchool x = Busy.laid();
        for (int i = 0; i < 14; i++) Check.feed(x, " ".repeat(20));
        Check.feed(x, "  any;".repeat(3) + "  ");
        return x;
    }

    private static void ofTexts() {
        edges("school", Busy::laid, (x, v) -> x.school(v), 0, 20, 0, 1);
        edges("school by an empty tape", Busy::bare, (x, v) -> x.school(v), 0, 0, 0, 0);
        edges("autumns", EdgesTest::withAutumnsOnTheTape, (x, v) -> x.autumns(v), 0, 20, 0, 3);
        edges("autumns by an empty tape", Busy::bare, (x, v) -> x.autumns(v), 0, 0, 0, 0);
        ThornSchool x = withALongTape();
        CHECK.same("the long tape", x.feed(0, 0, 0, 0, 0), 20 + 280 + 20 + 20);
        // its first 20 bytes are a SCHOOL, no AUTUMNS: with 300 it is read at least
        x = withALongTape();
        CHECK.fault(x, "autumns of 300", x.autumns(300), 2, 0);
        Trial trial = new Trial(CHECK, "a long tape", EdgesTest::withALongTape);
        for (int n : new int[] {301, 302, 319, 320, 321}) trial.none("autumns of " + n, y -> y.autumns(n), 1);
    }

    private static void ofTold() {
        edges("told", Busy::busy, (x, v) -> x.told(v), 0, 10, 3, 11);
        edges("cell", Busy::busy, (x, v) -> x.cell(v, 2), 0, 5, 0, 8);
        edges("cell, what", Busy::busy, (x, v) -> x.cell(1, v), 0, 2, 6, 5);
        edges("lesson", Busy::busy, (x, v) -> x.lesson(v, 0), 0, 1, 3, 4);
        edges("lesson, what", Busy::busy, (x, v) -> x.lesson(1, v), 0, 2, 4, 10);
        edges("pupil", Busy::busy, (x, v) -> x.pupil(v, 0), 0, 3, 1, 5);
        edges("pupil, what", Busy::busy, (x, v) -> x.pupil(2, v), 0, 6, 1, 1);
        edges("catches", Busy::busy, (x, v) -> x.catches(v, 4), 0, 3, 6, 3);
        edges("catches, cell", Busy::busy, (x, v) -> x.catches(0, v), 0, 5, 0, 0);
        for (int what : new int[] {Integer.MIN_VALUE, -1, 2, Integer.MAX_VALUE}) CHECK.same("fault " + what, Busy.busy().fault(what), -1);
        CHECK.same("fault 0", Busy.busy().fault(0), 2);
        CHECK.same("fault 1", Busy.busy().fault(1), 4);
    }

    /** q is caught at 1, where p, r are; s is beside. */
    private static ThornSchool oneAmongOthers() {
        ThornSchool x = Busy.loose();
        x.go(1, 0);
        x.go(3, 2);
        return x;
    }

    /** r is not caught where p, s are. */
    private static ThornSchool oneBesideOthers() {
        ThornSchool x = Busy.laid();
        x.go(3, 2);
        x.go(3, 0);
        return x;
    }

    private static void ofDeeds() {
        edges("go", Busy::loose, (x, v) -> x.go(v, 0), 0, 3, 0, 3);
        edges("go, side", Busy::loose, (x, v) -> x.go(0, v), 0, 3, 0, 6);
        edges("free", EdgesTest::oneAmongOthers, (x, v) -> x.free(v, 1), 0, 3, 4, 4);
        edges("free, other", EdgesTest::oneBesideOthers, (x, v) -> x.free(2, v), 0, 3, 4, 4);
        edges("tear", Busy::caught, (x, v) -> x.tear(v), 0, 3, 5, 3);
        edges("pick", Busy::loose, (x, v) -> x.pick(v), 0, 3, 3, 7);
        edges("year", Busy::laid, (x, v) -> x.year(v), 1, 99, 12, 18);
        edges("plant", Busy::laid, (x, v) -> x.plant(v, 0, 9), 0, 5, 0, 0);
        edges("plant, what", Busy::laid, (x, v) -> x.plant(1, v, 4), 0, 1, 6, 3);
        edges("plant, thorns", Busy::laid, (x, v) -> x.plant(1, 0, v), 0, 9, 6, 6);
        edges("plant, berries", Busy::laid, (x, v) -> x.plant(1, 1, v), 0, 9, 3, 3);
        edges("wish", Busy::laid, (x, v) -> x.wish(v, 9), 0, 3, 2, 0);
        edges("wish, want", Busy::laid, (x, v) -> x.wish(0, v), 0, 9, 2, 2);
        truths("teach", Busy::laid, (x, v) -> x.teach(v, 0, true), 0, 3);
        truths("teach, lesson", Busy::laid, (x, v) -> x.teach(0, v, true), 0, 1);
        truths("teach not, lesson", Busy::laid, (x, v) -> x.teach(1, v, false), 0, 1);
        edges("come", Busy::laid, (x, v) -> x.come(v), 0, 5, 4, 4);
        truths("rule", Busy::laid, (x, v) -> x.rule(v), 0, 16);
    }

    private static void ofWalks() {
        edges("reach", Busy::loose, (x, v) -> x.reach(v), 0, 3, 47, 36);
        edges("far", Busy::loose, (x, v) -> x.far(v, 2), 0, 3, 1, 1);
        edges("far, cell", Busy::loose, (x, v) -> x.far(0, v), 0, 5, 1, 2);
        edges("way", Busy::loose, (x, v) -> x.way(v, 2, 0), 0, 3, 1, 5);
        edges("way, cell", Busy::loose, (x, v) -> x.way(0, v, 1), 0, 5, 0, 2);
        edges("way, place", Busy::loose, (x, v) -> x.way(0, 5, v), 0, 2, 1, 5, 1, 6);
        edges("way, place of his own", Busy::laid, (x, v) -> x.way(0, 1, v), 0, 0, 1, 1, 1, 6);
        edges("calm", Busy::loose, (x, v) -> x.calm(v, 2), 0, 3, 9, 9);
        edges("calm, cell", Busy::loose, (x, v) -> x.calm(0, v), 0, 5, 9, 9);
        edges("pricks", Busy::loose, (x, v) -> x.pricks(v, 4), 0, 3, 6, 3);
        edges("pricks, cell", Busy::loose, (x, v) -> x.pricks(0, v), 0, 5, 0, 0);
        edges("opening", Busy::loose, (x, v) -> x.opening(v, 4), 0, 3, 1, 1);
        edges("opening, cell", Busy::loose, (x, v) -> x.opening(0, v), 0, 5, 0, 0);
    }

    private static void ofThoseFreed() {
        edges("helpers", Busy::caught, (x, v) -> x.helpers(v), 0, 3, 0, 0);
        edges("learns", Busy::busy, (x, v) -> x.learns(v), 0, 3, 0, 0);
    }

    private static void ofLessons() {
        edges("alone", Busy::busy, (x, v) -> x.alone(v), 0, 1, 3, 7);
        edges("together", Busy::busy, (x, v) -> x.together(v), 0, 1, 3, 7);
        edges("orderAt", Busy::busy, (x, v) -> x.orderAt(v), 0, 1, 0, 1, 1, 6);
        edges("left", Busy::busy, (x, v) -> x.left(v, 1), 0, 3, 7, 0);
        edges("left, lesson", Busy::busy, (x, v) -> x.left(0, v), 0, 1, 3, 7);
    }

    private static void ofFits() {
        edges("fits", Busy::laid, (x, v) -> x.fits(v, 0, 1), 0, 3, 10, 10);
        edges("fits, tray", Busy::laid, (x, v) -> x.fits(0, v, 1), 0, 3, 10, 10);
        edges("fits, twos", Busy::laid, (x, v) -> x.fits(0, 1, v), 0, 20, 10, 10);
        edges("fitsAt", Busy::laid, (x, v) -> x.fitsAt(v, 0, 1, 9), 0, 3, 9, 9);
        edges("fitsAt, tray", Busy::laid, (x, v) -> x.fitsAt(0, v, 1, 9), 0, 3, 9, 9);
        edges("fitsAt, twos", Busy::laid, (x, v) -> x.fitsAt(0, 1, v, 9), 0, 20, 9, 9);
        edges("fitsAt, k", Busy::laid, (x, v) -> x.fitsAt(0, 1, 20, v), 0, 9, 0, 9, 1, 6);
        edges("ask", Busy::laid, (x, v) -> x.ask(v, 0, 1), 0, 3, 1, 1);
        edges("ask, tray", Busy::laid, (x, v) -> x.ask(0, v, 1), 0, 3, 1, 1);
        edges("ask, twos", Busy::laid, (x, v) -> x.ask(0, 1, v), 0, 20, 1, 1);
        // CELLS 0 to 5, CATCHES 0 to 18: of the last of twenty twos
        Call byCell = (x, v) -> {
            x.write(1, 38, v);
            return x.fits(0, 1, 20);
        };
        inATray("fits by cell", byCell, 5, 10, 10);
        Call byCatch = (x, v) -> {
            x.plant(5, 0, 9);
            x.write(1, 38, 5);
            x.write(1, 39, v);
            return x.fits(0, 1, 20);
        };
        inATray("fits by catch", byCatch, 18, 0, 1);
        inATray("fitsAt by cell", (x, v) -> { x.write(1, 38, v); return x.fitsAt(0, 1, 20, 0); }, 5, 0, 0);
        inATray("fitsAt by catch", (x, v) -> { x.plant(0, 0, v == 0 ? 0 : 9); x.write(1, 1, v); return x.fitsAt(0, 1, 1, 0); }, 18, 0, 9);
        // a CATCH of 18 is by one WANT alone
        for (int v : new int[] {-1, 18, 19}) {
            ThornSchool x = Busy.laid();
            x.plant(0, 0, 9);
            x.write(1, 1, v);
            CHECK.none(x, "ask by catch " + v, x.ask(0, 1, 1), v == 18 ? 6 : 5);
        }
        inATray("ask by cell", (x, v) -> { x.write(1, 38, v); return x.ask(0, 1, 20); }, 5, 1, 1);
    }

    /** Numbers in a TRAY: from 0 to the most they are taken, others have STATUS 5. */
    private static void inATray(String what, Call call, int most, long byLeast, long byMost) {
        Trial trial = new Trial(CHECK, what, Busy::laid);
        trial.done("by 0", x -> call.by(x, 0), byLeast);
        trial.done("by " + most, x -> call.by(x, most), byMost);
        for (int v : new int[] {Integer.MIN_VALUE, -1, most + 1, Integer.MAX_VALUE}) {
            ThornSchool x = Busy.laid();
            CHECK.none(x, what + " " + v, call.by(x, v), 5);
        }
    }

    private static void ofWhose() {
        edges("whose", Busy::loose, (x, v) -> x.whose(v, 1), 0, 3, 15, 5);
        edges("whose, cells", Busy::loose, (x, v) -> x.whose(1, v), 0, 20, 15, 5);
        inATray("whose by cell", (x, v) -> { x.write(1, 19, v); return x.whose(1, 20); }, 5, 4, 4);
    }

    private static ThornSchool apart() {
        return Check.with("thicket 5 by 5;pupil p at 0;pupil q at 4;pupil r at 12;pupil s at 20;pupil t at 24;");
    }

    private static void ofGames() {
        edges("game, turns", EdgesTest::apart, (x, v) -> x.game(0, 2, v), 0, 4, 1, 1);
        edges("game, other", EdgesTest::apart, (x, v) -> x.game(2, v, 1), 0, 4, 1, 1);
        edges("game", EdgesTest::apart, (x, v) -> x.game(v, 2, 1), 0, 4, 1, 1);
        edges("moveOf, turns", EdgesTest::apart, (x, v) -> x.moveOf(0, 2, v), 1, 4, 1, 1);
        edges("moveOf, other", EdgesTest::apart, (x, v) -> x.moveOf(2, v, 1), 0, 4, 0, 0);
        edges("moveOf", EdgesTest::apart, (x, v) -> x.moveOf(v, 2, 1), 0, 4, 1, 0);
        Trial trial = new Trial(CHECK, "one and himself", EdgesTest::apart);
        for (int p = 0; p < 5; p++) {
            int pupil = p;
            trial.none("game with himself", x -> x.game(pupil, pupil, 1), 1);
            trial.none("move with himself", x -> x.moveOf(pupil, pupil, 1), 1);
            trial.none("free of himself", x -> x.free(pupil, pupil), 1);
        }
    }

    private static void ofOdds() {
        truths("chance", Busy::loose, (x, v) -> x.chance(v, 2), 0, 3);
        truths("chance, cell", Busy::loose, (x, v) -> x.chance(0, v), 0, 5);
        truths("slips", Busy::laid, (x, v) -> x.slips(v, 0), 0, 12);
        truths("slips, k", Busy::laid, (x, v) -> x.slips(0, v), 0, 12);
        Supplier<ThornSchool> sixes = () -> {
            ThornSchool x = Busy.busy();
            for (int i = 0; i < 4; i++) x.tray(i, i, 6);
            return x;
        };
        edges("copyThorns", sixes, (x, v) -> x.copyThorns(v), 0, 3, 6, 6);
    }

    private static void ofAutumns() {
        edges("live", Busy::laid, (x, v) -> x.live(v), 0, 9999, 7, 7);
        edges("lived", Busy::laid, (x, v) -> x.lived(v), 0, 4, 296, 1);
        truths("mean", Busy::laid, (x, v) -> x.mean(v, 1), 0, 9999);
        truths("mean by 2", Busy::laid, (x, v) -> x.mean(v, 2), 0, 9998);
        truths("mean by 20", Busy::laid, (x, v) -> x.mean(v, 20), 0, 9980);
        truths("mean, many", Busy::laid, (x, v) -> x.mean(0, v), 1, 20);
        truths("mean, many to the last seed", Busy::laid, (x, v) -> x.mean(9985, v), 1, 15);
    }

    /** The last CELL, LESSON, PUPIL of as many as there can be, and the first that is not. */
    private static void ofAFullSchool() {
        edges("the cells", Busy::full, (x, v) -> x.cell(v, 0), 0, 24, 0, 9);
        edges("the lessons", Busy::full, (x, v) -> x.lesson(v, 1), 0, 6, 0, 63);
        edges("the pupils", Busy::full, (x, v) -> x.pupil(v, 1), 0, 4, 2, 9);
        edges("catches of all pupils", Busy::full, (x, v) -> x.catches(v, 24), 0, 4, 11, 11);
        edges("catches in all cells", Busy::full, (x, v) -> x.catches(0, v), 0, 24, 0, 11);
        edges("plant", Busy::full, (x, v) -> x.plant(v, 1, 0), 0, 24, 0, 9);
        edges("wish", Busy::full, (x, v) -> x.wish(v, 0), 0, 4, 2, 9);
        truths("teach", Busy::full, (x, v) -> x.teach(0, v, true), 0, 6);
        edges("alone", Busy::full, (x, v) -> x.alone(v), 0, 6, 9, 63);
        edges("together", Busy::full, (x, v) -> x.together(v), 0, 6, 9, 63);
        edges("orderAt", Busy::full, (x, v) -> x.orderAt(v), 0, 6, 0, 6, 1, 6);
        edges("left", Busy::full, (x, v) -> x.left(0, v), 0, 6, 9, 63);
        edges("pricks", Busy::full, (x, v) -> x.pricks(v, x.pupil(v < 0 || v > 4 ? 0 : v, 0)), 0, 4, 0, 0);
        edges("opening", Busy::full, (x, v) -> x.opening(v, x.pupil(v < 0 || v > 4 ? 0 : v, 0)), 0, 4, 0, 0);
        edges("school", Busy::full, (x, v) -> x.school(v), 0, 900, 0, 1);
        edges("copyThorns", Busy::full, (x, v) -> x.copyThorns(v), 0, 3, 25, 25);
        Trial trial = new Trial(CHECK, "as full as can be", Busy::full);
        for (int v : new int[] {Integer.MIN_VALUE, -1, 5, Integer.MAX_VALUE}) noSuchPupil(trial, v);
        for (int v : new int[] {Integer.MIN_VALUE, -1, 25, Integer.MAX_VALUE}) noSuchCell(trial, v);
    }

    private static void noSuchPupil(Trial trial, int v) {
        trial.none("reach", x -> x.reach(v), 1);
        trial.none("far", x -> x.far(v, 0), 1);
        trial.none("way", x -> x.way(v, 0, 0), 1);
        trial.none("calm", x -> x.calm(v, 0), 1);
        trial.none("go", x -> x.go(v, 0), 1);
        trial.none("tear", x -> x.tear(v), 1);
        trial.none("pick", x -> x.pick(v), 1);
        trial.none("free", x -> x.free(v, 0), 1);
        trial.none("free of", x -> x.free(0, v), 1);
        trial.none("helpers", x -> x.helpers(v), 1);
        trial.none("learns", x -> x.learns(v), 1);
        trial.none("fits", x -> x.fits(v, 0, 0), 1);
        trial.none("fitsAt", x -> x.fitsAt(v, 0, 0, 0), 1);
        trial.none("ask", x -> x.ask(v, 0, 0), 1);
        trial.none("game", x -> x.game(v, 0, 1), 1);
        trial.none("game with", x -> x.game(0, v, 1), 1);
        trial.none("moveOf", x -> x.moveOf(v, 0, 1), 1);
        trial.none("moveOf with", x -> x.moveOf(0, v, 1), 1);
        trial.no("chance", x -> x.chance(v, 0), 1);
        trial.none("pupil", x -> x.pupil(v, 0), 1);
        trial.none("catches", x -> x.catches(v, 0), 1);
        trial.none("wish", x -> x.wish(v, 0), 1);
        trial.no("teach", x -> x.teach(v, 0, true), 1);
        trial.none("pricks", x -> x.pricks(v, 0), 1);
        trial.none("opening", x -> x.opening(v, 0), 1);
        trial.none("left", x -> x.left(v, 0), 1);
    }

    private static void noSuchCell(Trial trial, int v) {
        trial.none("far, cell", x -> x.far(0, v), 1);
        trial.none("way, cell", x -> x.way(0, v, 0), 1);
        trial.none("calm, cell", x -> x.calm(0, v), 1);
        trial.none("pricks, cell", x -> x.pricks(0, v), 1);
        trial.none("opening, cell", x -> x.opening(0, v), 1);
        trial.no("chance, cell", x -> x.chance(0, v), 1);
        trial.none("come", x -> x.come(v), 1);
        trial.none("cell", x -> x.cell(v, 0), 1);
        trial.none("catches, cell", x -> x.catches(0, v), 1);
        trial.none("plant", x -> x.plant(v, 0, 0), 1);
    }

    /** Without a LESSON, a PUPIL, with one CELL alone none but that is there. */
    private static void ofABareSchool() {
        Trial trial = new Trial(CHECK, "as bare as can be", Busy::bare);
        for (int v : new int[] {Integer.MIN_VALUE, -1, 0, Integer.MAX_VALUE}) {
            noSuchPupil(trial, v);
            trial.none("lesson", x -> x.lesson(v, 0), 1);
            trial.none("alone", x -> x.alone(v), 1);
            trial.none("together", x -> x.together(v), 1);
        }
        for (int v : new int[] {Integer.MIN_VALUE, -1, 1, Integer.MAX_VALUE}) noSuchCell(trial, v);
        edges("the only cell", Busy::bare, (x, v) -> x.cell(v, 0), 0, 0, 0, 0);
        edges("plant in it", Busy::bare, (x, v) -> x.plant(v, 0, 9), 0, 0, 0, 0);
        edges("come to it", Busy::bare, (x, v) -> x.come(v), 0, 0, 0, 0);
        trial.none("orderAt 0", x -> x.orderAt(0), 6);
        trial.none("read of a row without a number", x -> x.read(0, 0), 3);
        trial.no("write to it", x -> x.write(0, 0, 1), 3);
        trial.no("pour of one from it", x -> x.pour(0, 0, 0, 0, 1), 3);
        trial.yes("pour of none from it", x -> x.pour(0, 0, 0, 0, 0));
        trial.none("copyThorns to it", x -> x.copyThorns(0), 3);
        trial.none("whose of one from it", x -> x.whose(0, 1), 3);
        trial.done("whose of none from it", x -> x.whose(0, 0), 0);
    }
}
