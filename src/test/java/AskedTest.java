/** All that is only asked is as all is now: nothing changes by it, not even what an earlier call has told. */
public final class AskedTest {
    private static final Check CHECK = new Check();
    private static final Trial LAID = new Trial(CHECK, "laid", Busy::laid);
    private static final Trial LOOSE = new Trial(CHECK, "loose", Busy::loose);
    private static final Trial CAUGHT = new Trial(CHECK, "caught", Busy::caught);
    private static final Trial FULL = new Trial(CHECK, "full", Busy::full);
    private static final Trial FRESH = new Trial(CHECK, "fresh", ThornSchool::new);

    public static void main(String[] args) {
        told();
        walks();
        freed();
        lessons();
        wants();
        games();
        fractions();
        withoutStatus();
        twoObjects();
        CHECK.end();
    }

    private static void told() {
        int[] told = {3, 2, 2, 4, 5, 3, 10, 24, 1, 2, 11};
        for (int i = 0; i < told.length; i++) {
            int what = i;
            LAID.asks("told " + i, x -> x.told(what), told[i]);
        }
        int[][] cells = {{0, 0, 0}, {6, 3, 5}, {0, 4, 2}, {0, 8, 0}, {4, 9, 0}, {0, 0, 8}};
        for (int c = 0; c < 6; c++) {
            for (int i = 0; i < 3; i++) {
                int cell = c;
                int what = i;
                LAID.asks("cell " + c + " what " + i, x -> x.cell(cell, what), cells[c][i]);
            }
        }
        int[][] lessons = {{3, 0, 6}, {4, 1, 10}};
        for (int l = 0; l < 2; l++) {
            for (int i = 0; i < 3; i++) {
                int lesson = l;
                int what = i;
                LAID.asks("lesson " + l + " what " + i, x -> x.lesson(lesson, what), lessons[l][i]);
            }
        }
        int[][] pupils = {{1, 2, 0, 5, 2, 0, 0}, {2, 1, 3, 0, 0, 0, 2}, {1, 9, 1, 0, 0, 11, 1}, {5, 0, 2, 0, 0, 0, 1}};
        int[][] catches = {{0, 8, 0, 0, 6, 0}, {0, 5, 0, 0, 3, 0}, {0, 14, 0, 0, 12, 0}, {0, 5, 0, 0, 3, 0}};
        for (int p = 0; p < 4; p++) {
            int pupil = p;
            for (int i = 0; i < 7; i++) {
                int what = i;
                LAID.asks("pupil " + p + " what " + i, x -> x.pupil(pupil, what), pupils[p][i]);
            }
            for (int c = 0; c < 6; c++) {
                int cell = c;
                LAID.asks("catch of " + p + " in " + c, x -> x.catches(pupil, cell), catches[p][c]);
            }
        }
        LAID.asks("read", x -> x.read(0, 0), 5);
        LAID.asks("read of less than 0", x -> x.read(2, 1), -7);
        int[] lived = {296, 1, 2, 1, 1};
        for (int i = 0; i < 5; i++) {
            int what = i;
            LAID.asks("lived " + i, x -> x.lived(what), lived[i]);
        }
    }

    private static void walks() {
        int[] loose = {1 + 2 + 4 + 8 + 32, 4 + 32, 1 + 2 + 4 + 8 + 32, 4 + 32};
        for (int p = 0; p < 4; p++) {
            int pupil = p;
            LOOSE.asks("reach of " + p, x -> x.reach(pupil), loose[p]);
            CAUGHT.asks("reach of one caught " + p, x -> x.reach(pupil), p < 2 ? 2 : 16);
        }
        int[] far = {1, 0, 1, 2, -1, 2};
        int[] pricks = {0, 0, 0, 0, 6, 0};
        int[] calm = {9, 9, 9, 9, -1, 9};
        for (int c = 0; c < 6; c++) {
            int cell = c;
            if (c != 4) {
                LOOSE.asks("far of " + c, x -> x.far(0, cell), far[c]);
                LOOSE.asks("way to " + c, x -> x.way(0, cell, 0), 1);
                LOOSE.asks("way's end at " + c, x -> x.way(0, cell, far[cell]), c);
                LOOSE.asks("calm of " + c, x -> x.calm(0, cell), calm[c]);
                CAUGHT.asks("calm of one caught " + c, x -> x.calm(0, cell), calm[c]);
            }
            LOOSE.asks("pricks of " + c, x -> x.pricks(0, cell), pricks[c]);
            CAUGHT.asks("pricks of one caught " + c, x -> x.pricks(0, cell), c == 1 ? 0 : pricks[c] + 5);
            LOOSE.asks("opening of " + c, x -> x.opening(0, cell), c == 4 ? 1 : 0);
            CAUGHT.asks("opening of one caught " + c, x -> x.opening(0, cell), c == 4 ? 1 : 0);
        }
    }

    private static void freed() {
        LAID.asks("freed", x -> x.freed(), 15);
        LOOSE.asks("freed, nobody is caught", x -> x.freed(), 15);
        CAUGHT.asks("freed, all are caught", x -> x.freed(), 0);
        FRESH.asks("freed of nobody", x -> x.freed(), 0);
        LAID.asks("helpers", x -> x.helpers(0), 6);
        CAUGHT.asks("helpers: none", x -> x.helpers(0), 0);
        LAID.asks("learns", x -> x.learns(0), 0);
        LAID.asks("learns", x -> x.learns(2), 1);
        LAID.asks("learns", x -> x.learns(3), 0);
    }

    private static void lessons() {
        FRESH.asks("orders without a lesson", x -> x.orders(), 1);
        LAID.asks("orders", x -> x.orders(), 1);
        FULL.asks("orders of seven one by one", x -> x.orders(), 1);
        LAID.asks("order at 0", x -> x.orderAt(0), 0);
        LAID.asks("order at 1", x -> x.orderAt(1), 1);
        LAID.asks("alone", x -> x.alone(1), 7);
        LAID.asks("together", x -> x.together(1), 7);
        int[] left = {7, 0, 4, 0};
        for (int p = 0; p < 4; p++) {
            int pupil = p;
            LAID.asks("left of " + p, x -> x.left(pupil, 1), left[p]);
        }
        LAID.asks("left of a by who knows b", x -> x.left(3, 0), 3);
        FULL.asks("alone of seven", x -> x.alone(6), 63);
        FULL.asks("together of seven", x -> x.together(6), 63);
        FULL.asks("left of seven", x -> x.left(0, 6), 63);
        FULL.asks("left of seven known ones", x -> x.left(1, 6), 0);
    }

    private static void wants() {
        LAID.asks("fits", x -> x.fits(0, 0, 2), 10);
        LAID.asks("fitsAt", x -> x.fitsAt(0, 0, 2, 4), 4);
        LAID.asks("ask", x -> x.ask(0, 0, 2), 1);
        LAID.asks("whose", x -> x.whose(0, 1), 14);
        LOOSE.asks("whose", x -> x.whose(0, 4), 1 + 4);
        FRESH.asks("told", x -> x.told(0), 4);
        Trial nobody = new Trial(CHECK, "nobody", () -> {
            ThornSchool x = new ThornSchool();
            Check.row(x, 0, 0, 15);
            return x;
        });
        nobody.asks("whose", x -> x.whose(0, 2), 0);
        nobody.asks("whose by nothing", x -> x.whose(0, 0), 0);
    }

    private static void games() {
        for (int n = 0; n <= 4; n++) {
            int turns = n;
            LOOSE.asks("game of p, q " + n, x -> x.game(0, 1, turns), 1);
            CAUGHT.asks("game of two in one cell " + n, x -> x.game(0, 1, turns), 0);
            if (n > 0) LOOSE.asks("move of p from q " + n, x -> x.moveOf(0, 1, turns), 0);
        }
    }

    private static void fractions() {
        LOOSE.tells("chance", x -> x.chance(0, 2), 11, 16);
        LOOSE.tells("chance of two steps", x -> x.chance(0, 5), 121, 256);
        LOOSE.tells("chance of his own", x -> x.chance(0, 1), 1, 1);
        CAUGHT.tells("chance of his own, caught", x -> x.chance(0, 1), 1, 1);
        LAID.tells("slips", x -> x.slips(2, 1), 135, 256);
        LAID.tells("slips of none", x -> x.slips(0, 0), 1, 1);
        LAID.tells("slips that can't be", x -> x.slips(3, 4), 0, 1);
        FRESH.tells("slips", x -> x.slips(1, 1), 1, 8);
        Trial same = new Trial(CHECK, "autumns without a draw", () -> {
            ThornSchool x = Busy.laid();
            x.school(0);
            Check.school(x, "thicket 2 by 1;thorns 1 9;berries 1 9;pupil p at 0 want 9;pupil q at 1;lesson l hours 1;");
            Check.autumns(x, "go p right;free q p;tear p;pick p;year 20;");
            x.go(0, 1);
            x.tear(0);
            x.go(0, 0);
            x.mark();
            return x;
        });
        same.tells("mean", x -> x.mean(0, 20), 18 + 17, 1);
        same.tells("mean by one", x -> x.mean(9999, 1), 18 + 17, 1);
        Trial none = new Trial(CHECK, "autumns of nobody", () -> {
            ThornSchool x = new ThornSchool();
            Check.autumns(x, "any;year 20;");
            return x;
        });
        none.tells("mean of nobody", x -> x.mean(0, 20), 0, 1);
    }

    /** status(), top(), bottom(), fault() change nothing; nor is STATUS changed by them or by feed(). */
    private static void withoutStatus() {
        for (int refused = 0; refused < 2; refused++) {
            ThornSchool x = Busy.laid();
            x.slips(2, refused == 0 ? 1 : -1);
            int due = refused == 0 ? 0 : 1;
            CHECK.same("status", x.status(), due);
            CHECK.same("status again", x.status(), due);
            x.top();
            CHECK.same("behind top", x.status(), due);
            x.bottom();
            CHECK.same("behind bottom", x.status(), due);
            for (int what = -1; what < 3; what++) x.fault(what);
            CHECK.same("behind fault", x.status(), due);
            x.feed(0, 0, 0, 0, 0);
            CHECK.same("behind feed", x.status(), due);
            for (int i = 0; i < 50; i++) x.feed(0, 0, 0, 0, 0);
            CHECK.same("behind feed in vain", x.status(), due);
        }
        String was = Seen.of(Busy::laid);
        CHECK.yes("status changes nothing", was.equals(Seen.behind(Busy::laid, x -> x.status())));
        CHECK.yes("top changes nothing", was.equals(Seen.behind(Busy::laid, x -> x.top())));
        CHECK.yes("bottom changes nothing", was.equals(Seen.behind(Busy::laid, x -> x.bottom())));
        CHECK.yes("fault changes nothing", was.equals(Seen.behind(Busy::laid, x -> x.fault(0) + x.fault(1) + x.fault(2))));
        String full = Seen.of(Busy::full);
        CHECK.yes("feed in vain changes nothing", full.equals(Seen.behind(Busy::full, x -> x.feed(1, 2, 3, 4, 5))));
        CHECK.yes("feed adds to the tape alone", Seen.of(Busy::laid).split("fed")[0].equals(Seen.behind(Busy::laid, x -> x.feed(1, 2, 3, 4, 5)).split("fed")[0]));
    }

    /** What is done to one object is not done to another. */
    private static void twoObjects() {
        String was = Seen.of(Busy::full);
        String then = Seen.of(() -> {
            ThornSchool x = Busy.full();
            ThornSchool y = Busy.busy();
            y.live(7);
            y.undo();
            y.tray(0, 0, 1);
            y.school(20);
            return x;
        });
        CHECK.yes("two objects", was.equals(then));
        CHECK.yes("a fresh one is fresh", Seen.of(ThornSchool::new).equals(Seen.of(() -> {
            Busy.full();
            return new ThornSchool();
        })));
    }
}
