/** Promises 9, 10, 12: the tape, the SCHOOL as a text, its FAULTS. */
public final class TextsTest {
    private static final Check CHECK = new Check();

    public static void main(String[] args) {
        feeds();
        takesSchools();
        startsAnew();
        faultsOfKindsOneAndTwo();
        faultsOfKindsThreeAndFour();
        faultsOfKindsFiveAndSix();
        firstFaultCounts();
        cutTexts();
        oldOneStays();
        faultTells();
        CHECK.end();
    }

    private static void fault(String text, int fault, int place) {
        ThornSchool x = new ThornSchool();
        CHECK.fault(x, text, Check.school(x, text), fault, place);
    }

    private static void taken(String text, int pupils) {
        ThornSchool x = new ThornSchool();
        CHECK.done(x, text, Check.school(x, text), pupils);
        CHECK.same(text + ", its fault", x.fault(0), 0);
        CHECK.same(text + ", its place", x.fault(1), -1);
    }

    private static void feeds() {
        ThornSchool x = new ThornSchool();
        for (int i = 1; i <= 45; i++) CHECK.same("feed", x.feed(0x20202020, 0x20202020, 0x20202020, 0x20202020, 0x20202020), 20 * i);
        CHECK.same("a tape that is full", x.feed(0, 0, 0, 0, 0), -1);
        CHECK.none(x, "more than the tape has", x.school(901), 1);
        CHECK.done(x, "900 blanks", x.school(900), 0);
        CHECK.same("it is empty then", x.feed(0x6f646473, 0x20333b20, 0xFF000000, 0, 0), 20);
        CHECK.done(x, "odds 3;", x.school(7), 0);
        CHECK.done(x, "the highest byte comes first", x.told(4), 3);
        x.feed(0x20202020, 0x20202020, 0x20202020, 0x20202020, 0x202020FF);
        CHECK.fault(x, "a byte 255", x.school(20), 1, 19);
    }

    private static void takesSchools() {
        taken("", 0);
        taken(" \n ", 0);
        taken("thicket 5 by 5;thorns 24 9;berries 24 9;", 0);
        taken("thicket 1 by 1;", 0);
        taken("thicket\n0005by0005;odds\n16;odds".substring(0, 27), 0);
        taken("pupil p at0want0knows;", 1);
        taken("lesson l hours 1 needs;pupil p at 15 want 9 knows l;", 1);
        taken("odds 0;lesson thick hours 9;thicket 2 by 2;thorns 3 1;", 0);
        taken("pupil abcdefgh at 0;pupil a at 0;pupil b at 0;pupil c at 0;pupil d at 0;", 5);
        taken("thorns 0 5;thorns 0 0;berries 1 3;", 0);
        ThornSchool x = Check.with("thicket 3 by 2;odds 5;thorns 4 7;thorns 4 2;berries 5 6;lesson a hours 3;lesson b hours 4 needs a;"
            + "lesson c hours 5 needs b a;pupil p at 4 want 8 knows c a;pupil q at 5;");
        CHECK.same("wide", x.told(0), 3);
        CHECK.same("high", x.told(1), 2);
        CHECK.same("odds", x.told(4), 5);
        CHECK.same("thorns told again", x.cell(4, 0), 2);
        CHECK.same("berries", x.cell(5, 1), 6);
        CHECK.same("hours", x.lesson(1, 0), 4);
        CHECK.same("needs of b", x.lesson(1, 1), 1);
        CHECK.same("needs of c", x.lesson(2, 1), 3);
        CHECK.same("at", x.pupil(0, 0), 4);
        CHECK.same("want", x.pupil(0, 1), 8);
        CHECK.same("knows", x.pupil(0, 2), 5);
        CHECK.same("not caught by thorns that are there", x.pupil(0, 3), 0);
        CHECK.same("want without", x.pupil(1, 1), 0);
        CHECK.same("knows without", x.pupil(1, 2), 0);
    }

    private static void startsAnew() {
        ThornSchool x = Check.with("thicket 2 by 1;odds 9;thorns 1 3;berries 0 4;lesson l hours 2;pupil p at 0 want 1 knows l;pupil q at 0;");
        Check.autumns(x, "any;");
        x.pick(0);
        x.go(0, 1);
        x.tear(0);
        x.go(1, 1);
        x.year(7);
        CHECK.same("torn, caught, marked ahead", x.told(10) + x.told(8) + x.told(9), 3 + 2 + 4);
        CHECK.done(x, "school", Check.school(x, "pupil z at 3;"), 1);
        int[] told = {4, 4, 0, 1, 2, 0, 0, 0, 0, 0, 0};
        for (int i = 0; i < told.length; i++) CHECK.same("told anew " + i, x.told(i), told[i]);
        for (int i = 1; i < 7; i++) CHECK.same("the pupil anew " + i, x.pupil(0, i), 0);
        CHECK.none(x, "no autumns", x.live(0), 6);
    }

    private static void faultsOfKindsOneAndTwo() {
        fault("?", 1, 0);
        fault("odds 1;A", 1, 7);
        fault("odds\t1;", 1, 4);
        fault("odds \r1;", 1, 5);
        fault("odds -1;", 1, 5);
        fault("odds 12345;", 1, 5);
        fault("odds 00001;", 1, 5);
        fault("12345", 1, 0);
        fault("odds 1,", 1, 6);
        fault("lesson l_ hours 1;", 1, 8);
        fault("pupil p at 0 knows {", 1, 19);
        fault("odds `", 1, 5);
        fault("odds :", 1, 5);
        fault("odds /", 1, 5);
        fault("odds", 2, 4);
        fault("odds 1", 2, 6);
        fault("odds 1 \n", 2, 8);
        fault("odds 1 1;", 2, 7);
        fault("odds 1 59", 2, 7);
        fault("odds 1<", 2, 6);
        fault("0 1 by 1;", 2, 0);
        fault("2 1;", 2, 0);
        fault("3 0 1;", 2, 0);
        fault("5 l hours 1;", 2, 0);
        fault("8 p at 0;", 2, 0);
        fault("thicket 1 1 1;", 2, 10);
        fault("lesson l 6 1;", 2, 9);
        fault("lesson l hours 1 7;", 2, 17);
        fault("pupil p 9 0;", 2, 8);
        fault("odds;", 2, 4);
        fault(";", 2, 0);
        fault("1", 2, 0);
        fault("foo", 2, 0);
        fault("thickets", 2, 0);
        fault("by", 2, 0);
        fault("go", 2, 0);
        fault("odds 1;;", 2, 7);
        fault("odds x;", 2, 5);
        fault("odds < 1;", 2, 5);
        fault("thicket 1 at 1;", 2, 10);
        fault("thicket 1 by;", 2, 12);
        fault("thicket 1 by 1", 2, 14);
        fault("thorns 1;", 2, 8);
        fault("thorns 1 2 3;", 2, 11);
        fault("berries x 1;", 2, 8);
        fault("lesson ;", 2, 7);
        fault("lesson 1 hours 1;", 2, 7);
        fault("lesson abcdefghi hours 1;", 2, 7);
        fault("lesson abcdefghij", 2, 7);
        fault("lesson l needs;", 2, 9);
        fault("lesson l hours 1 knows;", 2, 17);
        fault("lesson l hours 1 needs abcdefghi;", 2, 23);
        fault("lesson l hours 1 needs needs;", 2, 23);
        fault("lesson l hours 1 needs 5;", 2, 23);
        fault("pupil p;", 2, 7);
        fault("pupil p at;", 2, 10);
        fault("pupil p at 0 needs;", 2, 13);
        fault("pupil p at 0 knows want 1;", 2, 19);
        fault("pupil p at 0 want;", 2, 17);
        fault("pupil p at 0 want 1 want 2;", 2, 20);
        fault("pupil p at 0", 2, 12);
        String words = "thicket by odds thorns berries lesson hours needs pupil at want knows go left right up down free tear pick year any when caught loop end stop";
        for (String w : words.split(" ")) {
            fault("lesson " + w + " hours 1;", 2, 7);
            fault("pupil " + w + " at 1;", 2, 6);
        }
    }

    private static void faultsOfKindsThreeAndFour() {
        fault("lesson l hours 1;lesson l hours 1;", 3, 24);
        fault("lesson l hours 1;pupil l at 0;", 3, 23);
        fault("pupil p at 0;pupil p at 0;", 3, 19);
        fault("pupil p at 0;lesson p hours 1;", 3, 20);
        fault("lesson l hours 1 needs l;", 3, 23);
        fault("lesson l hours 1 needs m;lesson m hours 1;", 3, 23);
        fault("pupil p at 0;lesson l hours 1 needs p;", 3, 36);
        fault("pupil p at 0 knows p;", 3, 19);
        fault("lesson abcdefgh hours 1;pupil p at 0 knows abcdefg;", 3, 43);
        taken("lesson abcdefgh hours 1;lesson abcdefg hours 1;lesson bcdefgh hours 1;", 0);
        fault("thicket 0 by 1;", 4, 8);
        fault("thicket 6 by 1;", 4, 8);
        fault("thicket 1 by 0;", 4, 13);
        fault("thicket 1 by 6;", 4, 13);
        fault("odds 17;", 4, 5);
        fault("odds 9999;", 4, 5);
        fault("thorns 16 1;", 4, 7);
        fault("thicket 5 by 3;thorns 15 1;", 4, 22);
        fault("thorns 0 10;", 4, 9);
        fault("berries 16 0;", 4, 8);
        fault("berries 0 10;", 4, 10);
        fault("lesson l hours 0;", 4, 15);
        fault("lesson l hours 10;", 4, 15);
        fault("pupil p at 16;", 4, 11);
        fault("thicket 2 by 2;pupil p at 4;", 4, 26);
        fault("pupil p at 0 want 10;", 4, 18);
    }

    private static void faultsOfKindsFiveAndSix() {
        fault("thicket 1 by 1;thicket 1 by 1;", 5, 15);
        fault("odds 1;odds 1;", 5, 7);
        fault("thorns 0 0;thicket 1 by 1;", 5, 11);
        fault("berries 0 0;thicket 1 by 1;", 5, 12);
        fault("pupil p at 0;thicket 1 by 1;", 5, 13);
        taken("lesson l hours 1;odds 1;thicket 1 by 1;", 0);
        fault("lesson l hours 1;lesson m hours 1 needs l l;", 5, 42);
        fault("lesson l hours 1;pupil p at 0 knows l l;", 5, 38);
        String seven = "lesson a hours 1;lesson b hours 1;lesson c hours 1;lesson d hours 1;lesson e hours 1;lesson f hours 1;lesson g hours 1;";
        taken(seven, 0);
        taken(seven + "pupil p at 0 knows a b c d e f g;", 1);
        fault(seven + "pupil p at 0 knows a b c d e f g a;", 5, 119 + 33);
        fault(seven + "lesson", 6, 119);
        fault(seven + "lesson a hours 1;", 6, 119);
        String five = "pupil a at 0;pupil b at 0;pupil c at 0;pupil d at 0;pupil e at 0;";
        taken(five, 5);
        fault(five + "pupil f at 0;", 6, 65);
        fault(five + "thicket 1 by 1;", 5, 65);
        fault(five + "x", 2, 65);
    }

    private static void firstFaultCounts() {
        fault("odds 17?", 4, 5);
        fault("odds 17 foo", 4, 5);
        fault("foo ?", 2, 0);
        fault("foO", 2, 0);
        fault("thicket 9 by 9", 4, 8);
        fault("thorns 16 10;", 4, 7);
        fault("lesson l hours 1;lesson l", 3, 24);
        fault("odds 1;odds ?", 5, 7);
    }

    /** What stands on the tape behind the first n bytes is no part of the text. */
    private static void cutTexts() {
        ThornSchool x = new ThornSchool();
        Check.feed(x, "odds 12;");
        CHECK.fault(x, "odds 1", x.school(6), 2, 6);
        Check.feed(x, "odds   1;");
        CHECK.fault(x, "odds and a blank", x.school(5), 2, 5);
        Check.feed(x, "lesson lm hours 1;");
        CHECK.fault(x, "lesson l", x.school(8), 2, 8);
        Check.feed(x, "odds 1;?");
        CHECK.done(x, "odds 1;", x.school(7), 0);
        Check.feed(x, "odds 3;;");
        CHECK.done(x, "odds 3;", x.school(7), 0);
        Check.feed(x, "lesson abcdefghi");
        CHECK.fault(x, "lesson abcdefgh", x.school(15), 2, 15);
        Check.feed(x, "odds 12345;");
        CHECK.fault(x, "odds 1234", x.school(9), 4, 5);
    }

    private static void oldOneStays() {
        ThornSchool x = Check.with("odds 7;pupil p at 5;");
        Check.autumns(x, "any;any;");
        Check.feed(x, "pupil q at 1;pupil q at 1;");
        CHECK.fault(x, "school", x.school(26), 3, 19);
        CHECK.none(x, "the tape is empty then", x.school(1), 1);
        CHECK.same("the fault stays", x.fault(0), 3);
        CHECK.same("its place stays", x.fault(1), 19);
        CHECK.same("the odds stay", x.told(4), 7);
        CHECK.same("the pupil stays", x.pupil(0, 0), 5);
        CHECK.same("the autumns stay", x.live(0), 2);
        Check.feed(x, "pupil q at 1;pupil q at 1;");
        CHECK.none(x, "below 0", x.school(-1), 1);
        CHECK.none(x, "more than there is", x.school(41), 1);
        CHECK.done(x, "the tape stays then; the first bytes alone", x.school(13), 1);
        CHECK.none(x, "the rest is gone", x.school(1), 1);
        CHECK.done(x, "nothing of it", x.school(0), 0);
    }

    private static void faultTells() {
        ThornSchool x = new ThornSchool();
        CHECK.same("ahead of any", x.fault(0), -1);
        CHECK.same("ahead of any", x.fault(1), -1);
        x.school(5);
        CHECK.same("a status 1 tells nothing", x.fault(0), -1);
        Check.school(x, "odds 99;");
        CHECK.same("a fault", x.fault(0), 4);
        CHECK.same("its place", x.fault(1), 5);
        CHECK.same("others", x.fault(2), -1);
        CHECK.same("others", x.fault(-1), -1);
        Check.autumns(x, "go");
        CHECK.same("of autumns", x.fault(0), 2);
        CHECK.same("its place", x.fault(1), 2);
        Check.autumns(x, "any;");
        CHECK.same("none", x.fault(0), 0);
        CHECK.same("no place", x.fault(1), -1);
        x.autumns(301);
        CHECK.same("none, still", x.fault(0), 0);
    }
}
