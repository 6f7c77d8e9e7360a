/** Promises 13 to 17: what is told of all, of a CELL, a LESSON, a PUPIL; CATCH. */
public final class TellsTest {
    private static final Check CHECK = new Check();
    private static final String SCHOOL = "thicket 3 by 2;odds 7;thorns 1 3;thorns 4 1;berries 4 6;berries 0 2;lesson a hours 3;lesson b hours 4 needs a;"
        + "pupil p at 0 want 2;pupil q at 2 want 1 knows a b;pupil r at 2 want 9 knows a;";

    public static void main(String[] args) {
        told();
        cells();
        lessons();
        pupils();
        catches();
        CHECK.end();
    }

    private static void all(ThornSchool x, int... due) {
        for (int i = 0; i < due.length; i++) CHECK.done(x, "told " + i, x.told(i), due[i]);
    }

    private static void told() {
        ThornSchool x = Check.with(SCHOOL);
        all(x, 3, 2, 2, 3, 7, 0, 4, 8, 0, 0, 0);
        CHECK.none(x, "told 11", x.told(11), 1);
        CHECK.none(x, "told -1", x.told(-1), 1);
        x.pick(0);
        x.go(0, 1);
        x.go(2, 0);
        all(x, 3, 2, 2, 3, 7, 0, 4, 6, 5, 2, 0);
        CHECK.same("caught by", x.pupil(0, 3), 5);
        CHECK.same("caught by", x.pupil(2, 3), 11);
        x.tear(0);
        x.tear(2);
        x.year(4);
        all(x, 3, 2, 2, 3, 7, 4, 12, 13, 0, 2, 16);
        x.come(5);
        x.rule(1);
        all(x, 3, 2, 2, 4, 1, 4, 12, 13, 0, 2, 16);
        x.go(3, 0);
        all(x, 3, 2, 2, 4, 1, 4, 12, 13, 8, 2, 16);
    }

    private static void cells() {
        ThornSchool x = Check.with(SCHOOL);
        CHECK.done(x, "thorns", x.cell(1, 0), 3);
        CHECK.done(x, "no thorns", x.cell(0, 0), 0);
        CHECK.done(x, "berries", x.cell(4, 1), 6);
        CHECK.done(x, "no berries", x.cell(5, 1), 0);
        CHECK.done(x, "pupils at 0", x.cell(0, 2), 1);
        CHECK.done(x, "pupils at 2", x.cell(2, 2), 6);
        CHECK.done(x, "pupils at 5", x.cell(5, 2), 0);
        CHECK.none(x, "cell -1", x.cell(-1, 0), 1);
        CHECK.none(x, "cell 6", x.cell(6, 0), 1);
        CHECK.none(x, "what -1", x.cell(0, -1), 1);
        CHECK.none(x, "what 3", x.cell(0, 3), 1);
        ThornSchool y = Check.with("thicket 5 by 5;thorns 24 3;berries 24 4;pupil p at 24;");
        CHECK.done(y, "thorns of the last", y.cell(24, 0), 3);
        CHECK.done(y, "berries of the last", y.cell(24, 1), 4);
        CHECK.done(y, "who is at the last", y.cell(24, 2), 1);
        CHECK.none(y, "no cell 25", y.cell(25, 0), 1);
        x.go(0, 1);
        CHECK.done(x, "he went", x.cell(0, 2), 0);
        CHECK.done(x, "he came", x.cell(1, 2), 1);
    }

    private static void lessons() {
        ThornSchool x = Check.with(SCHOOL);
        CHECK.done(x, "hours", x.lesson(0, 0), 3);
        CHECK.done(x, "hours", x.lesson(1, 0), 4);
        CHECK.done(x, "needs none", x.lesson(0, 1), 0);
        CHECK.done(x, "needs a", x.lesson(1, 1), 1);
        CHECK.done(x, "who know a", x.lesson(0, 2), 6);
        CHECK.done(x, "who know b", x.lesson(1, 2), 2);
        x.teach(0, 1, true);
        CHECK.done(x, "who know b then", x.lesson(1, 2), 3);
        x.mark();
        Check.school(x, "lesson z hours 1;pupil y at 3;");
        CHECK.done(x, "who know z: none of those who were there", x.lesson(0, 2), 0);
        CHECK.done(x, "who is at 0: none of them", x.cell(0, 2), 0);
        x.undo();
        CHECK.none(x, "lesson -1", x.lesson(-1, 0), 1);
        CHECK.none(x, "lesson 2", x.lesson(2, 0), 1);
        CHECK.none(x, "what -1", x.lesson(0, -1), 1);
        CHECK.none(x, "what 3", x.lesson(0, 3), 1);
    }

    private static void pupils() {
        ThornSchool x = Check.with(SCHOOL);
        int[] q = {2, 1, 3, 0, 0, 0, 2};
        for (int i = 0; i < q.length; i++) CHECK.done(x, "of q " + i, x.pupil(1, i), q[i]);
        x.pick(0);
        x.go(0, 1);
        x.tear(0);
        x.go(0, 3);
        int[] p = {4, 2, 0, 3, 2, 5, 0};
        for (int i = 0; i < p.length; i++) CHECK.done(x, "of p " + i, x.pupil(0, i), p[i]);
        CHECK.none(x, "pupil -1", x.pupil(-1, 0), 1);
        CHECK.none(x, "pupil 3", x.pupil(3, 0), 1);
        CHECK.none(x, "what -1", x.pupil(0, -1), 1);
        CHECK.none(x, "what 7", x.pupil(0, 7), 1);
    }

    private static void catches() {
        ThornSchool x = Check.with(SCHOOL);
        CHECK.done(x, "3 and 2", x.catches(0, 1), 5);
        CHECK.done(x, "no thorns", x.catches(0, 2), 0);
        CHECK.done(x, "3 and 1 less 2", x.catches(1, 1), 2);
        CHECK.done(x, "1 and 1 less 2", x.catches(1, 4), 0);
        CHECK.done(x, "3 and 9 less 1", x.catches(2, 1), 11);
        x.wish(1, 0);
        CHECK.done(x, "1 less 2 is not below 0", x.catches(1, 4), 0);
        x.teach(1, 0, false);
        CHECK.done(x, "3 less 1", x.catches(1, 1), 2);
        CHECK.none(x, "pupil -1", x.catches(-1, 0), 1);
        CHECK.none(x, "pupil 3", x.catches(3, 0), 1);
        CHECK.none(x, "cell -1", x.catches(0, -1), 1);
        CHECK.none(x, "cell 6", x.catches(0, 6), 1);
    }
}
