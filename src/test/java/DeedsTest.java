/** Promises 18 to 27: what is done. */
public final class DeedsTest {
    private static final Check CHECK = new Check();

    public static void main(String[] args) {
        goes();
        goesToAllSides();
        frees();
        learnsByTheLastThorn();
        tears();
        picks();
        years();
        plants();
        wishes();
        teaches();
        comes();
        rules();
        countsToTheirMost();
        CHECK.end();
    }

    private static void goes() {
        ThornSchool x = Check.with("thicket 3 by 1;thorns 1 2;thorns 0 9;pupil p at 0 want 3;pupil q at 2;");
        CHECK.done(x, "go into thorns", x.go(0, 1), 5);
        CHECK.same("he is there", x.pupil(0, 0), 1);
        CHECK.same("he is caught", x.pupil(0, 3), 5);
        CHECK.none(x, "go while caught", x.go(0, 0), 7);
        CHECK.none(x, "go out of it while caught", x.go(0, 2), 7);
        CHECK.none(x, "side 4 while caught", x.go(0, 4), 1);
        CHECK.none(x, "side -1", x.go(1, -1), 1);
        CHECK.none(x, "side 4", x.go(1, 4), 1);
        CHECK.none(x, "pupil 2", x.go(2, 0), 1);
        CHECK.none(x, "pupil -1", x.go(-1, 0), 1);
        CHECK.none(x, "no cell", x.go(1, 1), 7);
        CHECK.same("he stays", x.pupil(1, 0), 2);
        CHECK.done(x, "go to where one is", x.go(1, 0), 2);
        x.plant(1, 0, 9);
        CHECK.same("what grows does not catch", x.pupil(1, 3), 2);
        x.plant(1, 0, 0);
        CHECK.same("what is gone does not free", x.pupil(1, 3), 2);
    }

    private static void goesToAllSides() {
        int[][] to = {{-1, 1, -1, 3}, {0, 2, -1, 4}, {1, -1, -1, 5}, {-1, 4, 0, -1}, {3, 5, 1, -1}, {4, -1, 2, -1}};
        for (int c = 0; c < 6; c++) {
            for (int side = 0; side < 4; side++) {
                ThornSchool x = Check.with("thicket 3 by 2;pupil p at " + c + ";");
                if (to[c][side] < 0) {
                    CHECK.none(x, "from " + c + " to side " + side, x.go(0, side), 7);
                } else {
                    CHECK.done(x, "from " + c + " to side " + side, x.go(0, side), 0);
                    CHECK.same("he is there", x.pupil(0, 0), to[c][side]);
                }
            }
        }
    }

    private static void frees() {
        ThornSchool x = Check.with("thicket 3 by 3;thorns 4 2;pupil p at 1;pupil q at 3;pupil r at 0;pupil s at 7;pupil t at 8;");
        x.go(0, 3);
        CHECK.none(x, "a pupil frees himself", x.free(0, 0), 1);
        CHECK.none(x, "pupil -1", x.free(-1, 0), 1);
        CHECK.none(x, "pupil 5", x.free(5, 0), 1);
        CHECK.none(x, "other -1", x.free(0, -1), 1);
        CHECK.none(x, "other 5", x.free(0, 5), 1);
        CHECK.none(x, "not near: aslant", x.free(2, 0), 7);
        CHECK.none(x, "not near: aslant", x.free(4, 0), 7);
        CHECK.none(x, "the other is not caught", x.free(1, 2), 7);
        CHECK.none(x, "he is caught", x.free(0, 1), 7);
        CHECK.done(x, "from the left", x.free(1, 0), 1);
        CHECK.same("one less", x.pupil(0, 3), 1);
        x.go(1, 1);
        CHECK.same("caught too", x.pupil(1, 3), 2);
        CHECK.none(x, "caught ones don't free", x.free(1, 0), 7);
        CHECK.done(x, "from below", x.free(3, 1), 1);
        CHECK.done(x, "the last thorn", x.free(3, 0), 0);
        CHECK.same("free", x.told(8), 2);
        CHECK.done(x, "in the same cell", x.free(0, 1), 0);
        CHECK.none(x, "no more thorns", x.free(0, 1), 7);
        ThornSchool y = Check.with("thicket 3 by 3;thorns 5 1;thorns 3 1;pupil p at 2;pupil q at 6;");
        y.go(0, 3);
        CHECK.none(y, "5 and 6 are not beside each other", y.free(1, 0), 7);
        y.go(1, 2);
        CHECK.none(y, "nor 3 and 5", y.free(1, 0), 7);
        ThornSchool z = Check.with("thicket 3 by 3;thorns 5 2;pupil p at 2;pupil q at 4;pupil r at 8;pupil s at 2;pupil t at 6;");
        z.go(0, 3);
        CHECK.done(z, "from the left", z.free(1, 0), 1);
        CHECK.done(z, "from below", z.free(2, 0), 0);
        z.go(0, 3);
        z.go(0, 2);
        CHECK.done(z, "from above", z.free(3, 0), 1);
        CHECK.none(z, "6 is not beside 5", z.free(4, 0), 7);
    }

    private static void learnsByTheLastThorn() {
        ThornSchool x = Check.with("thicket 2 by 1;thorns 1 2;lesson a hours 1;lesson b hours 1;lesson c hours 1 needs a;pupil p at 0;pupil q at 0 knows b;");
        x.go(0, 1);
        x.free(1, 0);
        CHECK.same("nothing by a thorn", x.pupil(0, 2), 0);
        x.free(1, 0);
        CHECK.same("the first lesson", x.pupil(0, 2), 1);
        CHECK.same("who frees learns nothing", x.pupil(1, 2), 2);
        ThornSchool y = Check.with("thicket 2 by 1;thorns 1 9;lesson a hours 1;lesson b hours 1 needs a;lesson c hours 1;pupil p at 0;pupil q at 0;");
        int[] known = {1, 3, 7, 7};
        for (int i = 0; i < known.length; i++) {
            y.go(0, 1);
            while (y.pupil(0, 3) > 0) y.free(1, 0);
            CHECK.same("known behind so many", y.pupil(0, 2), known[i]);
            y.go(0, 0);
        }
        y.teach(0, 0, false);
        y.teach(0, 1, false);
        y.teach(0, 2, false);
        y.teach(0, 0, true);
        y.go(0, 1);
        while (y.pupil(0, 3) > 0) y.free(1, 0);
        CHECK.same("b ahead of c, as a is known", y.pupil(0, 2), 3);
        ThornSchool z = Check.with("thicket 2 by 1;thorns 1 9;lesson a hours 1;lesson b hours 1 needs a;lesson c hours 1;pupil p at 0;pupil q at 0;");
        z.teach(0, 2, true);
        z.go(0, 1);
        z.tear(0);
        CHECK.same("who tears learns nothing", z.pupil(0, 2), 4);
    }

    private static void tears() {
        ThornSchool x = Check.with("thicket 2 by 1;thorns 1 4;pupil p at 0 want 3;pupil q at 0;");
        CHECK.none(x, "not caught", x.tear(0), 7);
        CHECK.none(x, "pupil -1", x.tear(-1), 1);
        CHECK.none(x, "pupil 2", x.tear(2), 1);
        x.go(0, 1);
        x.free(1, 0);
        CHECK.done(x, "tear", x.tear(0), 6);
        CHECK.same("not caught then", x.pupil(0, 3), 0);
        CHECK.same("torn", x.pupil(0, 5), 6);
        CHECK.same("still there", x.pupil(0, 0), 1);
        CHECK.none(x, "not twice", x.tear(0), 7);
        x.go(0, 0);
        x.go(0, 1);
        CHECK.done(x, "tear again", x.tear(0), 7);
        CHECK.same("torn by more", x.pupil(0, 5), 13);
        CHECK.same("the other is not", x.pupil(1, 5), 0);
    }

    private static void picks() {
        ThornSchool x = Check.with("thicket 2 by 1;thorns 1 4;berries 1 5;berries 0 3;pupil p at 0;pupil q at 0;");
        CHECK.none(x, "pupil -1", x.pick(-1), 1);
        CHECK.none(x, "pupil 2", x.pick(2), 1);
        CHECK.done(x, "pick", x.pick(1), 3);
        CHECK.same("marks", x.pupil(1, 4), 3);
        CHECK.same("none left", x.cell(0, 1), 0);
        CHECK.none(x, "none left", x.pick(0), 7);
        x.go(0, 1);
        CHECK.none(x, "caught", x.pick(0), 7);
        CHECK.same("they stay", x.cell(1, 1), 5);
        x.tear(0);
        CHECK.done(x, "not caught", x.pick(0), 5);
        x.plant(1, 1, 9);
        CHECK.done(x, "more", x.pick(0), 9);
        CHECK.same("marks", x.pupil(0, 4), 14);
        CHECK.same("thorns stay", x.cell(1, 0), 4);
        x.plant(1, 1, 1);
        CHECK.done(x, "one alone", x.pick(0), 1);
    }

    private static void years() {
        ThornSchool x = Check.with("thicket 3 by 1;thorns 0 1;thorns 1 9;berries 0 8;berries 2 3;pupil p at 0;");
        CHECK.none(x, "0 years", x.year(0), 1);
        CHECK.none(x, "-1 years", x.year(-1), 1);
        CHECK.none(x, "100 years", x.year(100), 1);
        CHECK.done(x, "a year", x.year(1), 11);
        CHECK.same("a thorn more", x.cell(0, 0), 2);
        CHECK.same("a berry more", x.cell(0, 1), 9);
        CHECK.same("9 thorns at most", x.cell(1, 0), 9);
        CHECK.same("a berry beside them", x.cell(1, 1), 1);
        CHECK.same("no thorns without", x.cell(2, 0), 0);
        CHECK.same("no berries without thorns", x.cell(2, 1), 3);
        CHECK.done(x, "5 years", x.year(5), 16);
        CHECK.same("9 berries at most", x.cell(0, 1), 9);
        CHECK.same("berries", x.cell(1, 1), 6);
        CHECK.same("nobody is caught by what grows", x.pupil(0, 3), 0);
        CHECK.done(x, "93 years", x.year(93), 18);
        CHECK.same("year", x.told(5), 99);
        for (int i = 0; i < 100; i++) CHECK.done(x, "99 years", x.year(99), 18);
        CHECK.same("the last year", x.told(5), 9999);
        CHECK.none(x, "no more", x.year(1), 4);
        CHECK.none(x, "0 first", x.year(0), 1);
        ThornSchool y = new ThornSchool();
        for (int i = 0; i < 100; i++) y.year(99);
        y.year(50);
        CHECK.none(y, "as a whole", y.year(50), 4);
        CHECK.same("it stays", y.told(5), 9950);
        CHECK.done(y, "just to 9999", y.year(49), 0);
    }

    private static void plants() {
        ThornSchool x = Check.with("thicket 2 by 1;thorns 1 4;berries 1 5;");
        CHECK.done(x, "thorns", x.plant(1, 0, 9), 4);
        CHECK.done(x, "berries", x.plant(1, 1, 0), 5);
        CHECK.same("thorns then", x.cell(1, 0), 9);
        CHECK.same("berries then", x.cell(1, 1), 0);
        CHECK.done(x, "none", x.plant(1, 0, 0), 9);
        CHECK.done(x, "where none were", x.plant(0, 1, 9), 0);
        CHECK.none(x, "cell -1", x.plant(-1, 0, 0), 1);
        CHECK.none(x, "cell 2", x.plant(2, 0, 0), 1);
        CHECK.none(x, "what -1", x.plant(0, -1, 0), 1);
        CHECK.none(x, "what 2", x.plant(0, 2, 0), 1);
        CHECK.none(x, "many -1", x.plant(0, 0, -1), 1);
        CHECK.none(x, "many 10", x.plant(0, 0, 10), 1);
        CHECK.same("nothing changed", x.cell(0, 0), 0);
    }

    private static void wishes() {
        ThornSchool x = Check.with("pupil p at 0 want 4;pupil q at 0;");
        CHECK.done(x, "wish", x.wish(0, 9), 4);
        CHECK.done(x, "wish", x.wish(0, 0), 9);
        CHECK.done(x, "wish", x.wish(1, 5), 0);
        CHECK.none(x, "want -1", x.wish(0, -1), 1);
        CHECK.none(x, "want 10", x.wish(0, 10), 1);
        CHECK.none(x, "pupil -1", x.wish(-1, 1), 1);
        CHECK.none(x, "pupil 2", x.wish(2, 1), 1);
        CHECK.same("want", x.pupil(0, 1), 0);
        CHECK.same("want", x.pupil(1, 1), 5);
    }

    private static void teaches() {
        ThornSchool x = Check.with("lesson a hours 1;lesson b hours 1 needs a;pupil p at 0;pupil q at 0 knows a;");
        CHECK.done(x, "teach b without a", x.teach(0, 1, true));
        CHECK.same("knows b", x.pupil(0, 2), 2);
        CHECK.none(x, "knows it", x.teach(0, 1, true), 7);
        CHECK.none(x, "knows it not", x.teach(0, 0, false), 7);
        CHECK.done(x, "forget", x.teach(0, 1, false));
        CHECK.same("knows nothing", x.pupil(0, 2), 0);
        CHECK.done(x, "forget", x.teach(1, 0, false));
        CHECK.same("knows nothing", x.pupil(1, 2), 0);
        CHECK.none(x, "pupil -1", x.teach(-1, 0, true), 1);
        CHECK.none(x, "pupil 2", x.teach(2, 0, true), 1);
        CHECK.none(x, "lesson -1", x.teach(0, -1, true), 1);
        CHECK.none(x, "lesson 2", x.teach(0, 2, true), 1);
        CHECK.none(x, "lesson 2, not", x.teach(0, 2, false), 1);
    }

    private static void comes() {
        ThornSchool x = Check.with("thorns 3 5;pupil p at 0 want 4;");
        CHECK.done(x, "come", x.come(3), 1);
        int[] due = {3, 0, 0, 0, 0, 0, 0};
        for (int i = 0; i < due.length; i++) CHECK.same("who came " + i, x.pupil(1, i), due[i]);
        CHECK.none(x, "cell -1", x.come(-1), 1);
        CHECK.none(x, "cell 16", x.come(16), 1);
        CHECK.done(x, "come", x.come(15), 2);
        CHECK.done(x, "come", x.come(15), 3);
        CHECK.done(x, "come", x.come(15), 4);
        CHECK.none(x, "a sixth", x.come(15), 4);
        CHECK.none(x, "a sixth to nowhere", x.come(16), 1);
        CHECK.same("five", x.told(3), 5);
        CHECK.same("where", x.cell(15, 2), 28);
        ThornSchool y = Check.with("thicket 2 by 1;thorns 1 9;berries 0 5;lesson l hours 1;pupil p at 0 want 1 knows l;pupil q at 0 want 7 knows l;");
        y.pick(1);
        y.go(1, 1);
        y.mark();
        Check.school(y, "thicket 2 by 1;");
        CHECK.done(y, "come to another school", y.come(0), 0);
        y.come(1);
        for (int i = 1; i < due.length; i++) CHECK.same("nothing is left of who was there " + i, y.pupil(1, i), 0);
    }

    private static void rules() {
        ThornSchool x = new ThornSchool();
        CHECK.done(x, "rule", x.rule(16));
        CHECK.same("odds", x.told(4), 16);
        CHECK.done(x, "rule", x.rule(0));
        CHECK.same("odds", x.told(4), 0);
        CHECK.none(x, "odds -1", x.rule(-1), 1);
        CHECK.none(x, "odds 17", x.rule(17), 1);
        CHECK.same("odds stay", x.told(4), 0);
    }

    private static void countsToTheirMost() {
        ThornSchool x = Check.with("thicket 5 by 1;thorns 0 1;thorns 1 9;thorns 2 9;thorns 3 9;thorns 4 9;pupil p at 0 want 9;");
        Check.autumns(x, "loop 99;year 9;loop 4;go p right;tear p;pick p;end;year 9;loop 4;go p left;tear p;pick p;end;end;");
        int marks = 0;
        int torn = 0;
        for (int i = 0; i < 14; i++) {
            x.live(i);
            CHECK.yes("marks come", x.pupil(0, 4) > marks || marks == 9999);
            CHECK.yes("thorns, too", x.pupil(0, 5) > torn || torn == 9999);
            marks = x.pupil(0, 4);
            torn = x.pupil(0, 5);
        }
        CHECK.same("9,999 marks at most", marks, 9999);
        CHECK.same("torn by 9,999 at most", torn, 9999);
        while (x.pupil(0, 3) > 0) x.tear(0);
        x.plant(x.pupil(0, 0), 1, 9);
        CHECK.done(x, "all berries are taken all the same", x.pick(0), 9);
        CHECK.same("9,999 marks", x.told(9), 9999);
        int side = x.pupil(0, 0) == 0 ? 1 : 0;
        int caught = x.go(0, side);
        CHECK.done(x, "by so many thorns all the same", x.tear(0), caught);
        CHECK.same("torn by 9,999", x.told(10), 9999);
    }
}
