/** Promises 42 to 45: how much one WANTS by where he was CAUGHT, whose a mark is. */
public final class WantsTest {
    private static final Check CHECK = new Check();
    // thorns: 0 3 1 9
    private static final String ROW = "thicket 4 by 1;thorns 1 3;thorns 2 1;thorns 3 9;lesson a hours 1;lesson b hours 1;lesson c hours 1;lesson d hours 1;lesson e hours 1;"
        + "pupil p at 0 want 2;pupil q at 0 want 7 knows a b c d e;";

    public static void main(String[] args) {
        fits();
        fitsAt();
        asks();
        asksWhatPartsBest();
        whose();
        whoseOfCaught();
        wrongOnes();
        CHECK.end();
    }

    private static void fits() {
        ThornSchool x = Check.with(ROW);
        Check.row(x, 0, 1, 5, 2, 3, 1, 0);
        CHECK.done(x, "by nothing", x.fits(0, 0, 0), 10);
        CHECK.done(x, "3 and 2", x.fits(0, 0, 1), 1);
        CHECK.done(x, "and 1 and 2", x.fits(0, 0, 2), 1);
        CHECK.done(x, "and not 0", x.fits(0, 0, 3), 0);
        CHECK.none(x, "of q: 7 in 1, too few", x.fits(1, 0, 4), 3);
        Check.row(x, 1, 1, 0, 2, 0, 0, 0);
        CHECK.done(x, "0 to 2 in 1", x.fits(1, 1, 1), 3);
        CHECK.done(x, "0 to 4 in 2, too", x.fits(1, 1, 2), 3);
        CHECK.done(x, "all by a cell without thorns", x.fits(1, 1, 3), 3);
        Check.row(x, 2, 0, 1);
        CHECK.done(x, "none by a catch without thorns", x.fits(0, 2, 1), 0);
        Check.row(x, 2, 3, 18);
        CHECK.done(x, "9 and 9", x.fits(0, 2, 1), 1);
        CHECK.same("that is 9", x.fitsAt(0, 2, 1, 0), 9);
        CHECK.same("his want stays", x.pupil(0, 1), 2);
        long[] twenty = new long[40];
        Check.row(x, 3, twenty);
        CHECK.done(x, "twenty twos", x.fits(0, 3, 20), 10);
    }

    private static void fitsAt() {
        ThornSchool x = Check.with(ROW);
        Check.row(x, 1, 2, 0);
        int[] due = {0, 1, 2, 3, 4};
        for (int k = 0; k < due.length; k++) CHECK.done(x, "fits at " + k, x.fitsAt(1, 1, 1, k), due[k]);
        CHECK.none(x, "no such", x.fitsAt(1, 1, 1, 5), 6);
        CHECK.none(x, "no such", x.fitsAt(1, 1, 1, Integer.MAX_VALUE), 6);
        CHECK.none(x, "below 0", x.fitsAt(1, 1, 1, -1), 1);
        CHECK.none(x, "below 0 ahead of a missing one", x.fitsAt(1, 0, 1, -1), 1);
        CHECK.done(x, "by nothing", x.fitsAt(1, 1, 0, 9), 9);
        CHECK.none(x, "by nothing", x.fitsAt(1, 1, 0, 10), 6);
        Check.row(x, 1, 1, 4);
        CHECK.done(x, "3 and 6 less 5", x.fitsAt(1, 1, 1, 0), 6);
        CHECK.done(x, "3 and 1", x.fitsAt(0, 1, 1, 0), 1);
    }

    private static void asks() {
        ThornSchool x = Check.with(ROW);
        Check.row(x, 0, 1, 5);
        CHECK.none(x, "one alone", x.ask(0, 0, 1), 6);
        Check.row(x, 0, 1, 0);
        CHECK.none(x, "none", x.ask(0, 0, 1), 6);
        CHECK.done(x, "the first that parts all", x.ask(0, 0, 0), 1);
        CHECK.done(x, "of q: 9 thorns part all", x.ask(1, 0, 0), 3);
        CHECK.done(x, "of q by 0 in 1: 3, too", x.ask(1, 0, 1), 3);
        Check.row(x, 0, 3, 4);
        CHECK.none(x, "of q by 4 in 3: 0 alone", x.ask(1, 0, 1), 6);
    }

    private static void asksWhatPartsBest() {
        ThornSchool x = Check.with("thicket 3 by 1;lesson a hours 1;lesson b hours 1;lesson c hours 1;lesson d hours 1;lesson e hours 1;pupil p at 0 knows a b c d e;");
        Check.row(x, 0);
        CHECK.done(x, "without thorns the first", x.ask(0, 0, 0), 0);
        x.plant(2, 0, 1);
        CHECK.done(x, "0 to 4 together at most", x.ask(0, 0, 0), 2);
        x.plant(1, 0, 1);
        CHECK.done(x, "of two alike the first", x.ask(0, 0, 0), 1);
        x.plant(2, 0, 2);
        CHECK.done(x, "0 to 3 together at most", x.ask(0, 0, 0), 2);
        Check.row(x, 0, 2, 0);
        CHECK.done(x, "by 0 in 2 none parts: the first", x.ask(0, 0, 1), 0);
        Check.row(x, 0, 1, 0);
        CHECK.done(x, "0 to 4, parted by 2", x.ask(0, 0, 1), 2);
        ThornSchool y = Check.with("thicket 3 by 1;thorns 1 1;thorns 2 3;lesson a hours 1;lesson b hours 1;pupil p at 0 knows a b;");
        Check.row(y, 0, 1, 0);
        CHECK.done(y, "two: 0 and 1", y.fits(0, 0, 1), 2);
        CHECK.done(y, "two are parted", y.ask(0, 0, 1), 2);
    }

    private static void whose() {
        ThornSchool x = Check.with("thicket 3 by 2;thorns 1 1;thorns 4 2;lesson a hours 1;lesson b hours 1;pupil p at 0;pupil q at 2 knows a;pupil r at 5 knows a b;");
        Check.row(x, 0, 0, 2, 4);
        CHECK.done(x, "all by nothing", x.whose(0, 0), 7);
        CHECK.done(x, "who come to 0", x.whose(0, 1), 7);
        CHECK.done(x, "and to 2", x.whose(0, 2), 6);
        CHECK.done(x, "and to 4", x.whose(0, 3), 4);
        CHECK.none(x, "too few", x.whose(0, 4), 3);
        Check.row(x, 1, 0, 0, 3, 0, 3);
        CHECK.done(x, "cells again", x.whose(1, 5), 7);
    }

    private static void whoseOfCaught() {
        ThornSchool x = Check.with("thicket 3 by 1;thorns 1 1;pupil p at 0;pupil q at 2;");
        x.go(0, 1);
        Check.row(x, 0, 1, 2, 6, -1);
        CHECK.done(x, "his own by one caught", x.whose(0, 1), 1);
        CHECK.done(x, "no other", x.whose(0, 2), 0);
        CHECK.none(x, "no such cell", x.whose(0, 3), 5);
        CHECK.none(x, "a number below 0", x.whose(0, 4), 5);
    }

    private static void wrongOnes() {
        ThornSchool x = Check.with(ROW);
        Check.row(x, 0, 0, 0, 4, 0);
        Check.row(x, 1, 0, 19);
        for (int pupil : new int[] {-1, 2}) all(x, pupil, 0, 1, 1);
        for (int tray : new int[] {-1, 4}) all(x, 0, tray, 1, 1);
        for (int n : new int[] {-1, 21, Integer.MAX_VALUE, Integer.MIN_VALUE}) all(x, 0, 0, n, 1);
        all(x, 9, 3, 1, 1);
        all(x, 0, 3, 1, 2);
        all(x, 0, 3, 0, 2);
        Check.row(x, 2, 0, 0, 1, 19);
        all(x, 0, 2, 2, 5);
        Check.row(x, 2, 0, 0, 4, 0);
        all(x, 0, 2, 2, 5);
        Check.row(x, 2, 0, 0, 0, 0, 1, 4, 0, 99);
        CHECK.done(x, "catches stand at odd places", x.fits(0, 2, 3), 1);
        all(x, 0, 0, 3, 3);
        all(x, 0, 0, 20, 3);
        all(x, 0, 0, 2, 5);
        all(x, 0, 1, 1, 5);
        Check.row(x, 1, 0, -1);
        all(x, 0, 1, 1, 5);
        Check.row(x, 1, -1, 0);
        all(x, 0, 1, 1, 5);
        Check.row(x, 1, 1L << 32, 0);
        all(x, 0, 1, 1, 5);
        Check.row(x, 1, 0, 1L << 32);
        all(x, 0, 1, 1, 5);
        CHECK.done(x, "bad numbers behind are not looked at", x.fits(0, 0, 1), 10);
        for (int tray : new int[] {-1, 4}) CHECK.none(x, "whose", x.whose(tray, 1), 1);
        for (int n : new int[] {-1, 21}) CHECK.none(x, "whose", x.whose(0, n), 1);
        CHECK.none(x, "whose of a missing one", x.whose(3, 0), 2);
        CHECK.none(x, "whose of too few", x.whose(0, 20), 3);
        CHECK.none(x, "whose of what is no cell", x.whose(0, 3), 5);
        Check.row(x, 1, 1L << 32);
        CHECK.none(x, "whose of what is no cell", x.whose(1, 1), 5);
    }

    private static void all(ThornSchool x, int pupil, int tray, int n, int status) {
        CHECK.none(x, "fits", x.fits(pupil, tray, n), status);
        CHECK.none(x, "fitsAt", x.fitsAt(pupil, tray, n, 0), status);
        CHECK.none(x, "ask", x.ask(pupil, tray, n), status);
    }
}
