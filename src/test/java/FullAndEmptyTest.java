/** The least and the most that there can be of what is counted, grows, is a set, a row, a way, a game, an AUTUMN. */
public final class FullAndEmptyTest {
    private static final Check CHECK = new Check();
    private static final String SEVEN = "lesson a hours 9;lesson b hours 9;lesson c hours 9;lesson d hours 9;lesson e hours 9;lesson f hours 9;lesson g hours 9;";

    public static void main(String[] args) {
        rowsCutTheirNumbers();
        rowsPouredAsAWhole();
        catches();
        caughtByEighteen();
        learnsAllOrNone();
        tornByTheMost();
        tornByTheMostInAutumns();
        markedByTheMost();
        growsToNine();
        nineThousandYears();
        fullSets();
        emptySets();
        calmsFromNineDown();
        theFewestAndTheMostThorns();
        theLongestWay();
        freedInARow();
        freedInAColumn();
        asksByTouch();
        ordersOfSome();
        gamesWithoutATurn();
        slipsOfAll();
        callsToTheLast();
        CHECK.end();
    }

    // ---- rows

    private static void rowsCutTheirNumbers() {
        for (int sort = 0; sort < 4; sort++) {
            int bits = 8 << sort;
            ThornSchool x = new ThornSchool();
            x.tray(0, sort, 60);
            long most = Long.MAX_VALUE >>> (64 - bits);
            long least = -most - 1;
            long[] v = {0, 1, -1, most, least, most - 1, least + 1, most + 1, least - 1, most << 1, Long.MAX_VALUE, Long.MIN_VALUE, 255, 256, 65535, 65536, 1L << 32};
            for (int i = 0; i < v.length; i++) {
                CHECK.done(x, "write", x.write(0, 59, v[i]));
                // the lowest bits of it, with their sign
                CHECK.done(x, v[i] + " cut to " + bits + " bits", x.read(0, 59), v[i] << (64 - bits) >> (64 - bits));
            }
            CHECK.done(x, "beside it", x.read(0, 58), 0);
        }
    }

    private static ThornSchool sixty() {
        ThornSchool x = new ThornSchool();
        x.tray(0, 2, 60);
        x.tray(1, 2, 60);
        for (int i = 0; i < 60; i++) x.write(0, i, i + 1);
        return x;
    }

    private static void rowsPouredAsAWhole() {
        ThornSchool x = sixty();
        CHECK.done(x, "all", x.pour(0, 0, 1, 0, 60));
        for (int i = 0; i < 60; i++) CHECK.same("place " + i, x.read(1, i), i + 1);
        CHECK.done(x, "all to itself", x.pour(0, 0, 0, 0, 60));
        for (int i = 0; i < 60; i++) CHECK.same("place " + i, x.read(0, i), i + 1);
        x = sixty();
        CHECK.done(x, "59 one place on", x.pour(0, 0, 0, 1, 59));
        for (int i = 0; i < 60; i++) CHECK.same("place " + i, x.read(0, i), Math.max(1, i));
        x = sixty();
        CHECK.done(x, "59 one place back", x.pour(0, 1, 0, 0, 59));
        for (int i = 0; i < 60; i++) CHECK.same("place " + i, x.read(0, i), Math.min(60, i + 2));
        x = sixty();
        CHECK.done(x, "none", x.pour(0, 0, 1, 0, 0));
        CHECK.done(x, "the last alone", x.pour(0, 59, 1, 59, 1));
        CHECK.same("the last", x.read(1, 59), 60);
        CHECK.same("nothing beside", x.read(1, 58), 0);
        CHECK.done(x, "the last to the first", x.pour(0, 59, 0, 0, 1));
        CHECK.same("the first", x.read(0, 0), 60);
        CHECK.same("the second stays", x.read(0, 1), 2);
        CHECK.done(x, "none from behind the last to behind the last", x.pour(0, 60, 1, 60, 0));
        for (int sort = 0; sort < 4; sort++) {
            ThornSchool y = new ThornSchool();
            y.tray(2, sort, 1);
            y.tray(3, sort, 1);
            y.write(2, 0, Long.MIN_VALUE | 0x8080_8080L);
            CHECK.done(y, "one of one", y.pour(2, 0, 3, 0, 1));
            CHECK.same("as it was", y.read(3, 0), y.read(2, 0));
        }
    }

    // ---- CATCH

    private static void catches() {
        String[] knows = {"", "a", "a b", "a b c", "a b c d", "a b c d e", "a b c d e f", "a b c d e f g"};
        for (int touch = 0; touch <= 7; touch++) {
            ThornSchool x = Check.with(SEVEN + "pupil p at 0 knows " + knows[touch] + ";");
            for (int thorns : new int[] {0, 1, 7, 8, 9}) {
                x.plant(1, 0, thorns);
                for (int want : new int[] {0, 1, 9}) {
                    x.wish(0, want);
                    CHECK.done(x, "catch by " + thorns + ", " + want + ", " + touch, x.catches(0, 1), thorns == 0 ? 0 : Math.max(0, thorns + want - touch));
                }
            }
        }
    }

    private static void caughtByEighteen() {
        ThornSchool x = Check.with("thicket 2 by 1;thorns 1 9;lesson l hours 1;pupil p at 0 want 9;pupil q at 1;");
        CHECK.done(x, "go", x.go(0, 1), 18);
        for (int left = 17; left >= 1; left--) {
            CHECK.done(x, "free", x.free(1, 0), left);
            CHECK.same("caught by", x.pupil(0, 3), left);
            CHECK.same("nothing learnt as yet", x.pupil(0, 2), 0);
        }
        CHECK.done(x, "the last thorn", x.free(1, 0), 0);
        CHECK.same("learnt by it", x.pupil(0, 2), 1);
        CHECK.same("not torn by it", x.pupil(0, 5), 0);
        CHECK.none(x, "no thorn more", x.free(1, 0), 7);
        x.go(0, 0);
        CHECK.done(x, "go with touch", x.go(0, 1), 17);
        CHECK.done(x, "tear", x.tear(0), 17);
        x.go(0, 0);
        x.wish(0, 0);
        x.plant(1, 0, 1);
        CHECK.done(x, "go where it is clear to him", x.go(0, 1), 0);
        CHECK.same("not caught", x.told(8), 0);
        x.teach(0, 0, false);
        x.go(0, 0);
        CHECK.done(x, "go, caught by one", x.go(0, 1), 1);
        CHECK.done(x, "the only thorn", x.free(1, 0), 0);
        CHECK.same("learnt by it", x.pupil(0, 2), 1);
    }

    private static void learnsAllOrNone() {
        ThornSchool x = Check.with("thicket 2 by 1;thorns 1 1;pupil p at 0;pupil q at 1;");
        x.go(0, 1);
        CHECK.done(x, "without a lesson", x.free(1, 0), 0);
        CHECK.same("nothing", x.pupil(0, 2), 0);
        ThornSchool y = Check.with("thicket 2 by 1;thorns 1 9;" + SEVEN + "pupil p at 0;pupil q at 1 knows a b c d e f g;");
        for (int known = 1; known <= 8; known++) {
            y.plant(1, 0, Math.min(9, known));
            y.go(0, 1);
            CHECK.done(y, "the last thorn", y.free(1, 0), 0);
            CHECK.same("knows", y.pupil(0, 2), (1 << Math.min(7, known)) - 1);
            y.go(0, 0);
        }
        CHECK.none(y, "no more to learn", y.learns(0), 6);
        // a LESSON that NEEDS one that he does not KNOW is not LEARNT, though none else is left
        ThornSchool z = Check.with("thicket 2 by 1;thorns 1 9;lesson a hours 1;lesson b hours 1 needs a;lesson c hours 1 needs a b;pupil p at 0 knows a c;pupil q at 1;");
        CHECK.done(z, "b", z.learns(0), 1);
        z.teach(0, 0, false);
        CHECK.done(z, "a ahead of b", z.learns(0), 0);
    }

    // ---- the most TORN, MARKED

    private static ThornSchool tornBy9990() {
        ThornSchool x = Check.with("thicket 2 by 1;thorns 1 9;lesson l hours 1;pupil p at 0 want 9;pupil q at 0 want 9;");
        Check.autumns(x, "loop 99;go p right;tear p;go p left;end;");
        for (int i = 1; i <= 5; i++) {
            CHECK.done(x, "live", x.live(0), 298);
            CHECK.same("torn by 18 each time", x.pupil(0, 5), 1782 * i);
        }
        Check.autumns(x, "loop 60;go p right;tear p;go p left;end;");
        x.live(0);
        CHECK.same("torn", x.pupil(0, 5), 9990);
        return x;
    }

    private static void torn(int want, int thorns, int due) {
        ThornSchool x = tornBy9990();
        x.wish(0, want);
        x.plant(1, 0, thorns);
        x.go(0, 1);
        CHECK.done(x, "tear by all thorns", x.tear(0), want + thorns);
        CHECK.same("9,990 and " + (want + thorns), x.pupil(0, 5), due);
        CHECK.same("told", x.told(10), due);
        x.go(0, 0);
        x.wish(0, 0);
        x.plant(1, 0, 1);
        x.go(0, 1);
        CHECK.done(x, "tear by one", x.tear(0), 1);
        CHECK.same("and one more", x.pupil(0, 5), Math.min(9999, due + 1));
        x.go(1, 1);
        CHECK.done(x, "another one", x.tear(1), 10);
        CHECK.same("is torn by his own", x.pupil(1, 5), 10);
        CHECK.same("all, above 9,999", x.told(10), Math.min(9999, due + 1) + 10);
    }

    private static void tornByTheMost() {
        torn(0, 8, 9998);
        torn(0, 9, 9999);
        torn(1, 9, 9999);
        torn(9, 9, 9999);
    }

    private static void tornByTheMostInAutumns() {
        ThornSchool x = tornBy9990();
        Check.autumns(x, "go p right;tear p;");
        CHECK.fraction(x, "mean", x.mean(0, 20), 9999, 1);
        CHECK.same("all stays", x.pupil(0, 5), 9990);
        x.live(0);
        CHECK.same("torn by steps", x.pupil(0, 5), 9999);
        x = tornBy9990();
        x.go(0, 1);
        x.go(1, 1);
        Check.autumns(x, "any;any;any;any;any;any;any;any;any;any;tear p;");
        x.live(1);
        CHECK.same("torn by any", x.pupil(0, 5), 9999);
    }

    private static ThornSchool markedBy9990() {
        ThornSchool x = Check.with("thicket 2 by 1;thorns 0 1;berries 0 9;pupil p at 0;pupil q at 0;");
        Check.autumns(x, "loop 99;pick p;year 9;end;");
        for (int i = 1; i <= 11; i++) {
            CHECK.done(x, "live", x.live(0), 199);
            CHECK.same("9 berries each time", x.pupil(0, 4), 891 * i);
        }
        for (int i = 0; i < 21; i++) {
            x.plant(0, 1, 9);
            x.pick(0);
        }
        CHECK.same("marks", x.pupil(0, 4), 9990);
        return x;
    }

    private static void markedByTheMost() {
        for (int berries : new int[] {8, 9}) {
            ThornSchool x = markedBy9990();
            x.plant(0, 1, berries);
            CHECK.done(x, "pick", x.pick(0), berries);
            CHECK.same("marks", x.pupil(0, 4), 9990 + berries);
            x.plant(0, 1, 9);
            CHECK.done(x, "all berries", x.pick(0), 9);
            CHECK.same("9,999 marks at most", x.pupil(0, 4), 9999);
            CHECK.same("none left", x.cell(0, 1), 0);
            x.plant(0, 1, 1);
            CHECK.done(x, "one berry", x.pick(0), 1);
            CHECK.same("9,999 marks still", x.told(9), 9999);
            x.plant(0, 1, 5);
            x.pick(1);
            CHECK.same("all marks, above 9,999", x.told(9), 10004);
            x.plant(0, 1, 5);
            Check.autumns(x, "pick p;");
            x.live(0);
            CHECK.same("by a step, too", x.pupil(0, 4), 9999);
            CHECK.same("it is no missed one", x.lived(0), 0);
        }
    }

    // ---- YEARS

    private static void growsToNine() {
        for (int thorns = 0; thorns <= 9; thorns++) {
            for (int berries = 0; berries <= 9; berries++) {
                for (int years : new int[] {1, 2, 9, 99}) {
                    ThornSchool x = Check.with("thicket 5 by 5;thorns 24 " + thorns + ";berries 24 " + berries + ";berries 0 " + berries + ";");
                    int grown = thorns == 0 ? 0 : Math.min(9, thorns + years);
                    CHECK.done(x, "years", x.year(years), grown);
                    CHECK.same("thorns", x.cell(24, 0), grown);
                    CHECK.same("berries", x.cell(24, 1), thorns == 0 ? berries : Math.min(9, berries + years));
                    CHECK.same("berries without thorns", x.cell(0, 1), berries);
                    CHECK.same("year", x.told(5), years);
                }
            }
        }
    }

    private static void nineThousandYears() {
        ThornSchool x = Check.with("thorns 0 1;pupil p at 0;");
        for (int i = 0; i < 100; i++) x.year(99);
        x.year(79);
        Check.autumns(x, "year 20;");
        CHECK.same("the year", x.told(5), 9979);
        x.mark();
        CHECK.done(x, "live", x.live(0), 1);
        CHECK.same("no missed one", x.lived(0), 0);
        CHECK.same("9,999", x.told(5), 9999);
        x.undo();
        x.year(1);
        x.plant(0, 0, 1);
        CHECK.done(x, "live", x.live(0), 1);
        CHECK.same("a missed one", x.lived(0), 1);
        CHECK.same("as a whole", x.told(5), 9980);
        CHECK.same("nothing grows by it", x.cell(0, 0), 1);
        CHECK.done(x, "to the last", x.year(19), 9);
        CHECK.none(x, "no year more", x.year(1), 4);
        Check.autumns(x, "year 1;");
        x.live(0);
        CHECK.same("a missed one", x.lived(0), 1);
    }

    // ---- sets

    private static void fullSets() {
        ThornSchool x = Check.with("thicket 5 by 5;thorns 12 9;" + SEVEN + "pupil p at 11;pupil q at 11;pupil r at 11;pupil s at 11;pupil t at 11;");
        CHECK.done(x, "all at one cell", x.cell(11, 2), 31);
        CHECK.done(x, "all are free", x.freed(), 31);
        for (int p = 0; p < 5; p++) for (int l = 0; l < 7; l++) x.teach(p, l, true);
        for (int l = 0; l < 7; l++) CHECK.done(x, "all know it", x.lesson(l, 2), 31);
        for (int p = 0; p < 5; p++) CHECK.done(x, "he knows all", x.pupil(p, 2), 127);
        CHECK.done(x, "touch", x.pupil(4, 6), 7);
        for (int p = 0; p < 5; p++) CHECK.done(x, "go", x.go(p, 1), 2);
        CHECK.done(x, "all are caught", x.told(8), 31);
        CHECK.done(x, "nobody is freed", x.freed(), 0);
        CHECK.done(x, "nobody helps", x.helpers(0), 0);
        x.tear(4);
        CHECK.done(x, "all but one", x.told(8), 15);
        CHECK.done(x, "by one all", x.freed(), 31);
        CHECK.done(x, "he helps", x.helpers(0), 16);
        for (int p = 1; p < 4; p++) x.tear(p);
        CHECK.done(x, "four help", x.helpers(0), 30);
        x.tear(0);
        x.plant(12, 0, 0);
        for (int p = 0; p < 5; p++) CHECK.done(x, "all 25 cells", x.reach(p), (1 << 25) - 1);
        Check.row(x, 0, 0, 4, 20, 24, 12);
        CHECK.done(x, "whose", x.whose(0, 5), 31);
    }

    private static void emptySets() {
        ThornSchool x = Check.with("thicket 2 by 1;thorns 0 1;thorns 1 9;lesson l hours 1;pupil p at 0;");
        CHECK.done(x, "nobody there", x.cell(1, 2), 0);
        CHECK.done(x, "needs none", x.lesson(0, 1), 0);
        CHECK.done(x, "nobody knows", x.lesson(0, 2), 0);
        CHECK.done(x, "knows none", x.pupil(0, 2), 0);
        CHECK.done(x, "nobody caught", x.told(8), 0);
        CHECK.done(x, "his own alone", x.reach(0), 1);
        Check.row(x, 0, 1);
        CHECK.done(x, "whose", x.whose(0, 1), 0);
        x.go(0, 1);
        CHECK.done(x, "nobody free", x.freed(), 0);
        CHECK.done(x, "nobody helps", x.helpers(0), 0);
        CHECK.done(x, "caught, his own alone", x.reach(0), 2);
    }

    // ---- where one comes

    private static void calmsFromNineDown() {
        String all = "a b c d e f g";
        for (int touch = 0; touch <= 7; touch++) {
            ThornSchool x = Check.with("thicket 3 by 1;" + SEVEN + "pupil p at 0 want 9 knows " + all.substring(0, Math.max(0, 2 * touch - 1)) + ";");
            CHECK.done(x, "his own", x.calm(0, 0), 9);
            CHECK.done(x, "without thorns", x.calm(0, 2), 9);
            for (int thorns = 1; thorns <= 9; thorns++) {
                x.plant(1, 0, thorns);
                if (thorns > touch) CHECK.none(x, "by no want", x.calm(0, 2), 6);
                else CHECK.done(x, "calm by " + thorns + ", " + touch, x.calm(0, 2), touch - thorns);
            }
            x.plant(0, 0, 9);
            CHECK.done(x, "his own, in thorns", x.calm(0, 0), 9);
        }
    }

    private static void theFewestAndTheMostThorns() {
        StringBuilder b = new StringBuilder("thicket 5 by 5;");
        for (int c = 0; c < 25; c++) b.append("thorns ").append(c).append(" 9;");
        ThornSchool x = Check.with(b + "pupil p at 0 want 9;pupil q at 12;");
        CHECK.done(x, "eight times 18", x.pricks(0, 24), 144);
        CHECK.done(x, "his own", x.pricks(0, 0), 0);
        CHECK.done(x, "beside", x.pricks(0, 1), 18);
        CHECK.done(x, "eight cells", x.opening(0, 24), 8);
        CHECK.done(x, "one cell", x.opening(0, 5), 1);
        CHECK.done(x, "his own", x.opening(0, 0), 0);
        x.go(0, 1);
        CHECK.done(x, "of what he is caught by, too", x.pricks(0, 24), 18 + 7 * 18);
        CHECK.done(x, "back", x.pricks(0, 0), 36);
        CHECK.done(x, "if he stays", x.pricks(0, 1), 0);
        CHECK.done(x, "as if not caught", x.opening(0, 24), 7);
        x.wish(0, 0);
        CHECK.done(x, "caught by as many as before, then by fewer", x.pricks(0, 24), 18 + 7 * 9);
        ThornSchool y = Check.with("thicket 5 by 5;pupil p at 0;");
        CHECK.done(y, "none", y.pricks(0, 24), 0);
        CHECK.done(y, "none", y.opening(0, 24), 0);
        ThornSchool z = Check.with("thicket 5 by 1;thorns 1 1;thorns 2 1;thorns 3 1;thorns 4 1;pupil p at 0;");
        CHECK.done(z, "four cells", z.opening(0, 4), 4);
        CHECK.done(z, "four thorns", z.pricks(0, 4), 4);
    }

    private static void theLongestWay() {
        ThornSchool x = Check.with("thicket 5 by 5;odds 1;thorns 1 1;thorns 6 1;thorns 11 1;thorns 16 1;thorns 8 1;thorns 13 1;thorns 18 1;thorns 23 1;pupil p at 0;");
        int[] way = {0, 5, 10, 15, 20, 21, 22, 17, 12, 7, 2, 3, 4, 9, 14, 19, 24};
        for (int k = 0; k < way.length; k++) {
            CHECK.done(x, "way to the last " + k, x.way(0, 24, k), way[k]);
            CHECK.done(x, "far", x.far(0, way[k]), k);
            CHECK.done(x, "the end of the way", x.way(0, way[k], k), way[k]);
            CHECK.none(x, "behind its end", x.way(0, way[k], k + 1), 6);
        }
        long top = 1;
        long bottom = 1;
        for (int k = 0; k <= 15; k++) {
            CHECK.fraction(x, "chance of " + k + " steps", x.chance(0, way[k]), top, bottom);
            top *= 15;
            bottom *= 16;
        }
        CHECK.none(x, "chance of 16 steps", x.chance(0, 24), 6);
        x.rule(0);
        CHECK.none(x, "16 steps, whatever the odds", x.chance(0, 24), 6);
        CHECK.fraction(x, "never", x.chance(0, 19), 1, 1);
        x.rule(16);
        CHECK.fraction(x, "always", x.chance(0, 19), 0, 1);
        CHECK.fraction(x, "no step, no slip", x.chance(0, 0), 1, 1);
        x.rule(15);
        CHECK.fraction(x, "but for one", x.chance(0, 19), 1, 1L << 60);
    }

    private static void freedInARow() {
        // all stand in a row, the last one is free; each is freed by the next, and learns by it
        ThornSchool x = Check.with("thicket 5 by 2;thorns 0 1;thorns 1 1;thorns 2 1;thorns 3 1;lesson l hours 1;pupil p at 5;pupil q at 6;pupil r at 7;pupil s at 8;pupil t at 4;");
        for (int p = 0; p < 4; p++) x.go(p, 2);
        CHECK.done(x, "caught", x.told(8), 15);
        CHECK.done(x, "all", x.freed(), 31);
        x.go(4, 3);
        CHECK.done(x, "from aslant none", x.freed(), 16);
        x.go(4, 0);
        CHECK.done(x, "from below", x.freed(), 31);
        CHECK.done(x, "nobody knows by it", x.lesson(0, 2), 0);
        CHECK.done(x, "all are caught still", x.told(8), 15);
    }

    private static void freedInAColumn() {
        for (int side : new int[] {2, 3}) {
            ThornSchool x = Check.with("thicket 1 by 5;thorns 2 3;pupil p at " + (side == 2 ? 3 : 1) + ";pupil q at 2;pupil r at 1;pupil s at 3;pupil t at 0;");
            x.go(0, side);
            CHECK.done(x, "all", x.freed(), 31);
            CHECK.done(x, "in his cell, above, below", x.helpers(0), 2 + 4 + 8);
            CHECK.none(x, "two above", x.free(4, 0), 7);
            CHECK.done(x, "above", x.free(2, 0), 2);
            CHECK.done(x, "below", x.free(3, 0), 1);
            CHECK.done(x, "in his cell", x.free(1, 0), 0);
        }
        ThornSchool y = Check.with("thicket 1 by 5;thorns 4 1;pupil p at 3;pupil q at 2;");
        y.go(0, 3);
        CHECK.done(y, "two above: not freed", y.freed(), 2);
        CHECK.done(y, "nobody helps", y.helpers(0), 0);
    }

    /** Where something grows some are parted at least: but for 0 each CATCH is by one WANT. */
    private static void asksByTouch() {
        String all = "a b c d e f g";
        for (int touch = 0; touch <= 7; touch++) {
            ThornSchool x = Check.with("thicket 5 by 5;" + SEVEN + "pupil p at 0 knows " + all.substring(0, Math.max(0, 2 * touch - 1)) + ";");
            x.tray(0, 0, 40);
            CHECK.done(x, "nothing grows: the first", x.ask(0, 0, 0), 0);
            for (int thorns = 1; thorns <= 9; thorns++) {
                x.plant(23, 0, thorns);
                CHECK.done(x, "the only one", x.ask(0, 0, 0), 23);
                CHECK.done(x, "by twenty twos of nothing, too", x.ask(0, 0, 20), 23);
                x.plant(24, 0, thorns);
                CHECK.done(x, "of two alike the first", x.ask(0, 0, 0), 23);
                // one thorn more parts one WANT more, as long as some are alike
                x.plant(24, 0, Math.min(9, thorns + 1));
                CHECK.done(x, "the better one", x.ask(0, 0, 0), thorns < 9 && thorns < touch ? 24 : 23);
                x.plant(24, 0, 0);
            }
        }
    }

    // ---- LESSONS, games, odds

    private static void ordersOfSome() {
        int[] due = {1, 1, 2, 6, 24, 120, 720, 5040};
        for (int n = 0; n <= 7; n++) {
            ThornSchool x = Check.with(SEVEN.substring(0, 17 * n));
            CHECK.done(x, "orders of " + n, x.orders(), due[n]);
            for (int k = 0; k < n; k++) {
                CHECK.done(x, "the last order", x.orderAt(k), n - 1 - k);
                CHECK.done(x, "alone", x.alone(k), 9);
                CHECK.done(x, "together", x.together(k), 9);
            }
            CHECK.none(x, "behind the last", x.orderAt(n), 6);
        }
    }

    private static void gamesWithoutATurn() {
        for (int a = 0; a < 4; a++) {
            for (int b = 0; b < 4; b++) {
                ThornSchool x = Check.with("thicket 2 by 2;pupil p at " + a + ";pupil q at " + b + ";");
                CHECK.done(x, "no turn", x.game(0, 1, 0), a == b ? 0 : 1);
                CHECK.none(x, "no move of no turn", x.moveOf(0, 1, 0), 1);
                if (a == b) CHECK.none(x, "no move in one cell", x.moveOf(0, 1, 1), 6);
            }
        }
    }

    private static void slipsOfAll() {
        for (int odds = 0; odds <= 16; odds++) {
            ThornSchool x = new ThornSchool();
            x.rule(odds);
            for (int n = 0; n <= 12; n++) {
                CHECK.fraction(x, "none or more", x.slips(n, 0), 1, 1);
                for (int k = n + 1; k <= 12; k++) CHECK.fraction(x, "more than all", x.slips(n, k), 0, 1);
                long top = 1;
                long bottom = 1;
                for (int i = 0; i < n; i++) {
                    top *= odds;
                    bottom *= 16;
                }
                while (top % 2 == 0 && bottom % 2 == 0) {
                    top /= 2;
                    bottom /= 2;
                }
                CHECK.fraction(x, "all of " + n + " by " + odds, x.slips(n, n), top, top == 0 ? 1 : bottom);
            }
        }
    }

    /** The 512th call is answered as the first. */
    private static void callsToTheLast() {
        ThornSchool x = new ThornSchool();
        for (int i = 1; i <= 511; i++) CHECK.same("year " + i, x.year(1), 0);
        CHECK.same("the 512th call", x.told(5), 511);
        ThornSchool y = new ThornSchool();
        for (int i = 0; i < 511; i++) CHECK.same("feed " + i, y.feed(0, 0, 0, 0, 0), i < 45 ? 20 * i + 20 : -1);
        CHECK.same("the tape at the end", y.school(901), -1);
    }
}
