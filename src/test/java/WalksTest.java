/** Promises 28 to 33: where one comes. */
public final class WalksTest {
    private static final Check CHECK = new Check();
    // 0 1 2
    // 3 4 5   1, 4 have thorns; the way from 0 to 2 goes round by 8
    // 6 7 8
    private static final String ROUND = "thicket 3 by 3;thorns 1 3;thorns 4 1;lesson a hours 1;lesson b hours 1;pupil p at 0 want 0;pupil q at 4 want 2;pupil r at 7 want 0 knows a;";

    public static void main(String[] args) {
        reaches();
        fars();
        ways();
        calms();
        pricks();
        openings();
        wrongOnes();
        changesNothing();
        CHECK.end();
    }

    private static void reaches() {
        ThornSchool x = Check.with(ROUND);
        CHECK.done(x, "reach of p", x.reach(0), 511 - 2 - 16);
        CHECK.done(x, "reach of q from thorns", x.reach(1), 511 - 2);
        CHECK.done(x, "reach of r who knows one", x.reach(2), 511 - 2);
        x.go(0, 1);
        CHECK.done(x, "reach of one caught", x.reach(0), 2);
        x.tear(0);
        CHECK.done(x, "reach of one in thorns", x.reach(0), 511 - 16);
        x.wish(2, 1);
        CHECK.done(x, "reach of r who wants", x.reach(2), 511 - 2 - 16);
        ThornSchool y = Check.with("thicket 5 by 5;pupil p at 24;");
        CHECK.done(y, "all of 25", y.reach(0), (1 << 25) - 1);
        ThornSchool z = Check.with("thicket 1 by 1;thorns 0 9;pupil p at 0;");
        CHECK.done(z, "his own alone", z.reach(0), 1);
        ThornSchool w = Check.with("thicket 3 by 2;thorns 1 1;thorns 4 1;pupil p at 3;pupil q at 2;");
        CHECK.done(w, "rows don't go on", w.reach(0), 1 + 8);
        CHECK.done(w, "rows don't go on", w.reach(1), 4 + 32);
    }

    private static void fars() {
        ThornSchool x = Check.with(ROUND);
        CHECK.done(x, "far of his own", x.far(0, 0), 0);
        CHECK.done(x, "far round", x.far(0, 2), 6);
        CHECK.none(x, "far of thorns", x.far(0, 1), 6);
        CHECK.done(x, "far from thorns", x.far(1, 2), 2);
        CHECK.done(x, "far through", x.far(2, 4), 1);
        x.go(0, 1);
        CHECK.done(x, "caught, his own", x.far(0, 1), 0);
        CHECK.none(x, "caught, another", x.far(0, 2), 6);
        CHECK.none(x, "caught, the one he came from", x.far(0, 0), 6);
        ThornSchool y = Check.with("thicket 5 by 5;thorns 1 1;thorns 6 1;thorns 11 1;thorns 16 1;thorns 8 1;thorns 13 1;thorns 18 1;thorns 23 1;pupil p at 0;");
        CHECK.done(y, "a long one", y.far(0, 24), 16);
    }

    private static void ways() {
        ThornSchool x = Check.with(ROUND);
        int[] round = {0, 3, 6, 7, 8, 5, 2};
        for (int k = 0; k < round.length; k++) CHECK.done(x, "way round " + k, x.way(0, 2, k), round[k]);
        CHECK.none(x, "no such place", x.way(0, 2, 7), 6);
        CHECK.none(x, "no such place", x.way(0, 2, Integer.MAX_VALUE), 6);
        CHECK.none(x, "k below 0", x.way(0, 2, -1), 1);
        CHECK.none(x, "k below 0 ahead of no way", x.way(0, 1, -1), 1);
        CHECK.none(x, "no way", x.way(0, 1, 0), 6);
        CHECK.done(x, "his own", x.way(0, 0, 0), 0);
        CHECK.none(x, "behind his own", x.way(0, 0, 1), 6);
        int[] first = {8, 5, 2, 1, 0};
        ThornSchool y = Check.with("thicket 3 by 3;thorns 7 1;pupil p at 8;");
        for (int k = 0; k < first.length; k++) CHECK.done(y, "the first by cells " + k, y.way(0, 0, k), first[k]);
        ThornSchool z = Check.with("thicket 3 by 3;pupil p at 0;pupil q at 6;pupil r at 2;");
        int[] down = {0, 1, 2, 5, 8};
        for (int k = 0; k < down.length; k++) CHECK.done(z, "right ahead of down " + k, z.way(0, 8, k), down[k]);
        int[] up = {6, 3, 0, 1, 2};
        for (int k = 0; k < up.length; k++) CHECK.done(z, "up ahead of right " + k, z.way(1, 2, k), up[k]);
        int[] left = {2, 1, 0, 3, 6};
        for (int k = 0; k < left.length; k++) CHECK.done(z, "left ahead of down " + k, z.way(2, 6, k), left[k]);
    }

    private static void calms() {
        ThornSchool x = Check.with("thicket 4 by 2;thorns 1 3;thorns 2 1;thorns 5 1;thorns 6 2;lesson a hours 1;lesson b hours 1;lesson c hours 1;lesson d hours 1;"
            + "pupil p at 0 want 9 knows a b c d;pupil q at 0;");
        CHECK.done(x, "his own", x.calm(0, 0), 9);
        CHECK.done(x, "without thorns", x.calm(0, 4), 9);
        CHECK.done(x, "4 less 3", x.calm(0, 1), 1);
        CHECK.done(x, "4 less 1", x.calm(0, 5), 3);
        CHECK.done(x, "the worst on the best way", x.calm(0, 3), 2);
        CHECK.none(x, "by no want", x.calm(1, 3), 6);
        CHECK.none(x, "by no want", x.calm(1, 5), 6);
        x.go(0, 1);
        CHECK.done(x, "as if not caught", x.calm(0, 4), 9);
        x.teach(1, 0, true);
        CHECK.done(x, "by 0", x.calm(1, 5), 0);
    }

    private static void pricks() {
        ThornSchool x = Check.with(ROUND);
        CHECK.done(x, "his own", x.pricks(0, 0), 0);
        CHECK.done(x, "that where he comes to", x.pricks(0, 1), 3);
        CHECK.done(x, "round without", x.pricks(0, 2), 0);
        CHECK.done(x, "his own thorns are none", x.pricks(1, 5), 0);
        CHECK.done(x, "3 and 2", x.pricks(1, 1), 5);
        x.go(0, 1);
        CHECK.done(x, "if he goes", x.pricks(0, 0), 3);
        CHECK.done(x, "if he stays", x.pricks(0, 1), 0);
        CHECK.done(x, "and more", x.pricks(0, 4), 4);
        ThornSchool y = Check.with("thicket 3 by 2;thorns 1 2;thorns 3 1;thorns 4 2;thorns 5 9;pupil p at 0 want 3;");
        CHECK.done(y, "the fewer", y.pricks(0, 2), 5);
        CHECK.done(y, "the last, too", y.pricks(0, 5), 17);
        CHECK.done(y, "over 3", y.pricks(0, 4), 9);
        y.plant(1, 0, 9);
        CHECK.done(y, "straight all the same", y.pricks(0, 2), 12);
        ThornSchool z = Check.with("thicket 5 by 5;thorns 24 9;thorns 19 1;thorns 23 2;pupil p at 0 want 9;");
        CHECK.done(z, "to the last", z.pricks(0, 24), 18 + 10);
        CHECK.done(z, "the last is not clear", z.reach(0), (1 << 25) - 1 - (1 << 24) - (1 << 19) - (1 << 23));
        CHECK.done(z, "to be opened", z.opening(0, 24), 2);
        CHECK.none(z, "far", z.far(0, 24), 6);
    }

    private static void openings() {
        ThornSchool x = Check.with("thicket 5 by 2;thorns 0 9;thorns 1 9;thorns 3 9;thorns 6 1;thorns 7 1;thorns 8 1;thorns 9 1;pupil p at 0;pupil q at 5;");
        CHECK.done(x, "his own", x.opening(0, 0), 0);
        CHECK.done(x, "one, however many thorns", x.opening(0, 1), 1);
        CHECK.done(x, "one on the way", x.opening(0, 2), 1);
        CHECK.done(x, "two", x.opening(0, 4), 2);
        CHECK.done(x, "three", x.opening(0, 9), 3);
        CHECK.done(x, "without", x.opening(0, 5), 0);
        CHECK.done(x, "another's own counts", x.opening(1, 0), 1);
        x.go(0, 1);
        CHECK.done(x, "as if not caught", x.opening(0, 2), 0);
        CHECK.done(x, "as if not caught", x.opening(0, 4), 1);
    }

    private static void wrongOnes() {
        ThornSchool x = Check.with(ROUND);
        for (int pupil : new int[] {-1, 3, Integer.MAX_VALUE, Integer.MIN_VALUE}) {
            CHECK.none(x, "reach", x.reach(pupil), 1);
            all(x, pupil, 0);
        }
        for (int cell : new int[] {-1, 9, Integer.MAX_VALUE, Integer.MIN_VALUE}) all(x, 0, cell);
    }

    private static void all(ThornSchool x, int pupil, int cell) {
        CHECK.none(x, "far", x.far(pupil, cell), 1);
        CHECK.none(x, "way", x.way(pupil, cell, 0), 1);
        CHECK.none(x, "calm", x.calm(pupil, cell), 1);
        CHECK.none(x, "pricks", x.pricks(pupil, cell), 1);
        CHECK.none(x, "opening", x.opening(pupil, cell), 1);
    }

    private static void changesNothing() {
        ThornSchool x = Check.with(ROUND);
        x.reach(0);
        x.far(0, 2);
        x.way(0, 2, 3);
        x.calm(0, 4);
        x.pricks(0, 4);
        x.opening(0, 4);
        int[] told = {3, 3, 2, 3, 2, 0, 4, 0, 0, 0, 0};
        for (int i = 0; i < told.length; i++) CHECK.same("told " + i, x.told(i), told[i]);
        CHECK.same("p stays", x.pupil(0, 0), 0);
        CHECK.same("he wants", x.pupil(1, 1), 2);
    }
}
