/** Objects with something of everything, on which calls are tried. */
final class Busy {
    private Busy() {
    }

    // 0 1 2   thorns: 6 in 1, 4 in 4; p is caught at 1, r was torn there
    // 3 4 5   q is at 2, s at 5
    static ThornSchool busy() {
        ThornSchool x = Check.with("thicket 3 by 1;thorns 1 2;lesson l hours 1;pupil p at 0;pupil q at 1;");
        Check.autumns(x, "go p up;go p right;free q p;free q p;loop 99;pick p;go q down;pick q;end;");
        x.live(0);
        Check.school(x, "thicket 3 by 2;odds 7;thorns 1 3;thorns 4 1;berries 4 6;berries 0 2;berries 2 4;lesson a hours 3;lesson b hours 4 needs a;"
            + "pupil p at 0 want 2;pupil q at 2 want 1 knows a b;pupil r at 2 want 9 knows a;pupil s at 5;");
        x.pick(0);
        x.go(2, 0);
        x.tear(2);
        x.go(0, 1);
        x.year(3);
        Check.autumns(x, "loop 4;any;end;tear p;go q left;");
        x.mark();
        x.rule(5);
        x.plant(3, 1, 8);
        x.teach(3, 1, true);
        x.slips(2, 1);
        Check.autumns(x, "go p");
        Check.row(x, 1, new long[40]);
        x.tray(0, 0, 4);
        x.write(0, 0, 5);
        x.write(0, 2, 3);
        x.tray(2, 2, 3);
        x.write(2, 1, -7);
        Check.feed(x, "odds 9;pupil z at 3;");
        return x;
    }

    /** TRAY 3 is there, too. */
    static ThornSchool laid() {
        ThornSchool x = busy();
        x.tray(3, 1, 60);
        return x;
    }

    /** Nobody is caught. */
    static ThornSchool loose() {
        ThornSchool x = laid();
        x.tear(0);
        x.plant(5, 1, 7);
        return x;
    }

    /** All are caught: p, q at 1, r, s at 4. */
    static ThornSchool caught() {
        ThornSchool x = laid();
        x.go(1, 0);
        x.go(2, 3);
        x.go(3, 0);
        return x;
    }

    /** As much of everything as there can be; the tape holds 900 bytes. */
    static ThornSchool full() {
        ThornSchool x = Check.with("thicket 5 by 5;odds 16;thorns 12 9;berries 12 9;thorns 24 9;berries 24 9;lesson a hours 9;lesson b hours 9 needs a;lesson c hours 9 needs a b;"
            + "lesson d hours 9 needs a b c;lesson e hours 9 needs a b c d;lesson f hours 9 needs a b c d e;lesson g hours 9 needs a b c d e f;"
            + "pupil abcdefgh at 0 want 9;pupil q at 4 knows a b c d e f g;pupil r at 12 want 9;pupil s at 20 want 9;pupil t at 24 want 9 knows a b c d e f g;");
        Check.autumns(x, "any;".repeat(30));
        for (int i = 0; i < 101; i++) x.year(99);
        x.live(9999);
        for (int i = 0; i < 3; i++) {
            x.mark();
            x.wish(0, i);
        }
        for (int i = 0; i < 4; i++) x.tray(i, i, i < 2 ? 60 : 25);
        String text = "odds 3;pupil z at 3;";
        for (int i = 0; i < 45; i++) Check.feed(x, i == 0 ? text : " ".repeat(20));
        return x;
    }

    /** One CELL, no LESSON, nobody; all TRAYS without a number. */
    static ThornSchool bare() {
        ThornSchool x = Check.with("thicket 1 by 1;");
        for (int i = 0; i < 4; i++) x.tray(i, i, 0);
        return x;
    }
}
