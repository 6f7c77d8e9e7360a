/** Promises 34 to 41: who is freed, LESSONS. */
public final class LessonsTest {
    private static final Check CHECK = new Check();
    private static final String TREE = "lesson a hours 2;lesson b hours 3 needs a;lesson c hours 4 needs a;lesson d hours 5 needs b c;lesson e hours 6;"
        + "pupil p at 0 knows b;pupil q at 0 knows a d;pupil r at 0;";

    public static void main(String[] args) {
        freed();
        helpers();
        learns();
        alone();
        together();
        orders();
        lastOrder();
        left();
        CHECK.end();
    }

    private static ThornSchool caughtInARow() {
        ThornSchool x = Check.with("thicket 5 by 2;thorns 5 1;thorns 6 1;thorns 7 1;thorns 9 1;pupil p at 0;pupil q at 1;pupil r at 2;pupil s at 4;pupil t at 0;");
        for (int i = 0; i < 4; i++) x.go(i, 3);
        return x;
    }

    private static void freed() {
        CHECK.done(new ThornSchool(), "of nobody", new ThornSchool().freed(), 0);
        ThornSchool x = caughtInARow();
        CHECK.same("caught", x.told(8), 15);
        CHECK.done(x, "one by the other, but for s", x.freed(), 1 + 2 + 4 + 16);
        x.go(4, 1);
        x.go(4, 1);
        CHECK.done(x, "from behind", x.freed(), 1 + 2 + 4 + 16);
        x.go(4, 1);
        CHECK.done(x, "aslant of both r and s", x.freed(), 16);
        x.go(4, 1);
        CHECK.done(x, "s alone", x.freed(), 16 + 8);
        x.go(4, 3);
        CHECK.done(x, "nobody can", x.freed(), 0);
        CHECK.same("still caught", x.told(8), 31);
        ThornSchool y = Check.with("thicket 2 by 2;thorns 3 9;pupil p at 1;pupil q at 2;");
        CHECK.done(y, "all are free", y.freed(), 3);
        y.go(0, 3);
        y.go(1, 1);
        CHECK.done(y, "caught in one cell", y.freed(), 0);
        y.come(3);
        CHECK.done(y, "one more in that cell", y.freed(), 7);
    }

    private static void helpers() {
        ThornSchool x = caughtInARow();
        CHECK.done(x, "of p", x.helpers(0), 16);
        CHECK.done(x, "of q: none yet", x.helpers(1), 0);
        CHECK.none(x, "of t, who is not caught", x.helpers(4), 6);
        CHECK.none(x, "of -1", x.helpers(-1), 1);
        CHECK.none(x, "of 5", x.helpers(5), 1);
        x.tear(0);
        CHECK.done(x, "of q: p", x.helpers(1), 1);
        x.tear(2);
        CHECK.done(x, "of q: p, r", x.helpers(1), 5);
        CHECK.done(x, "of s: none", x.helpers(3), 0);
        x.tear(1);
        CHECK.none(x, "of q no more", x.helpers(1), 6);
    }

    private static void learns() {
        ThornSchool x = Check.with(TREE);
        CHECK.done(x, "who knows b: a", x.learns(0), 0);
        CHECK.done(x, "who knows a, d: b", x.learns(1), 1);
        CHECK.done(x, "who knows nothing: a", x.learns(2), 0);
        x.teach(1, 1, true);
        CHECK.done(x, "c then", x.learns(1), 2);
        x.teach(1, 2, true);
        CHECK.done(x, "e then", x.learns(1), 4);
        x.teach(1, 4, true);
        CHECK.none(x, "none then", x.learns(1), 6);
        x.teach(1, 3, false);
        CHECK.done(x, "d, by all it needs", x.learns(1), 3);
        CHECK.none(x, "pupil -1", x.learns(-1), 1);
        CHECK.none(x, "pupil 3", x.learns(3), 1);
        ThornSchool y = Check.with("pupil p at 0;");
        CHECK.none(y, "without lessons", y.learns(0), 6);
        ThornSchool z = Check.with("lesson a hours 1;lesson b hours 1 needs a;lesson c hours 1 needs b;pupil p at 0 knows b;");
        z.teach(0, 1, false);
        CHECK.done(z, "a first", z.learns(0), 0);
        CHECK.same("he knows it not yet", z.pupil(0, 2), 0);
    }

    private static void wrongLessons(ThornSchool x) {
        for (int l : new int[] {-1, 5, Integer.MAX_VALUE, Integer.MIN_VALUE}) {
            CHECK.none(x, "alone", x.alone(l), 1);
            CHECK.none(x, "together", x.together(l), 1);
            CHECK.none(x, "left", x.left(0, l), 1);
        }
    }

    private static void alone() {
        ThornSchool x = Check.with(TREE);
        int[] due = {2, 5, 6, 14, 6};
        for (int i = 0; i < due.length; i++) CHECK.done(x, "alone " + i, x.alone(i), due[i]);
        wrongLessons(x);
        ThornSchool y = Check.with("lesson a hours 1;lesson b hours 2 needs a;lesson c hours 4 needs b;lesson d hours 8 needs c;");
        CHECK.done(y, "of those they need", y.alone(3), 15);
    }

    private static void together() {
        ThornSchool x = Check.with(TREE);
        int[] due = {2, 5, 6, 11, 6};
        for (int i = 0; i < due.length; i++) CHECK.done(x, "together " + i, x.together(i), due[i]);
        CHECK.done(x, "again", x.together(1), 5);
        ThornSchool y = Check.with("lesson a hours 9;lesson b hours 1;lesson c hours 2 needs b;lesson d hours 3 needs a c;lesson e hours 1 needs d b;");
        CHECK.done(y, "the longest", y.together(4), 13);
        CHECK.done(y, "not the longest of all", y.together(2), 3);
    }

    private static void orders() {
        CHECK.same("without any", new ThornSchool().orders(), 1);
        ThornSchool x = Check.with(TREE);
        CHECK.done(x, "a, b and c, d, and e at any of five places", x.orders(), 10);
        ThornSchool y = Check.with("lesson a hours 1;lesson b hours 1;lesson c hours 1;lesson d hours 1;lesson e hours 1;lesson f hours 1;lesson g hours 1;");
        CHECK.done(y, "seven free ones", y.orders(), 5040);
        ThornSchool z = Check.with("lesson a hours 1;lesson b hours 1 needs a;lesson c hours 1 needs b;");
        CHECK.done(z, "one by one", z.orders(), 1);
        Check.school(y, "lesson a hours 1;lesson b hours 1;");
        CHECK.done(y, "fewer then", y.orders(), 2);
        Check.school(y, "");
        CHECK.done(y, "none then", y.orders(), 1);
    }

    private static void lastOrder() {
        ThornSchool x = Check.with(TREE);
        int[] due = {4, 0, 2, 1, 3};
        for (int i = 0; i < due.length; i++) CHECK.done(x, "order at " + i, x.orderAt(i), due[i]);
        CHECK.none(x, "order at 5", x.orderAt(5), 6);
        CHECK.none(x, "far behind", x.orderAt(Integer.MAX_VALUE), 6);
        CHECK.none(x, "below 0", x.orderAt(-1), 1);
        CHECK.none(x, "far below 0", x.orderAt(Integer.MIN_VALUE), 1);
        ThornSchool y = new ThornSchool();
        CHECK.none(y, "without any", y.orderAt(0), 6);
        ThornSchool z = Check.with("lesson a hours 1;lesson b hours 1;lesson c hours 1 needs b;lesson d hours 1 needs a;");
        int[] last = {1, 2, 0, 3};
        for (int i = 0; i < last.length; i++) CHECK.done(z, "the last order " + i, z.orderAt(i), last[i]);
    }

    private static void left() {
        ThornSchool x = Check.with(TREE);
        CHECK.done(x, "he knows it", x.left(0, 1), 0);
        CHECK.done(x, "d without b", x.left(0, 3), 11);
        CHECK.done(x, "a", x.left(0, 0), 2);
        CHECK.done(x, "he knows d alone", x.left(1, 3), 0);
        CHECK.done(x, "b without a", x.left(1, 1), 3);
        CHECK.done(x, "e", x.left(1, 4), 6);
        CHECK.done(x, "all", x.left(2, 3), 14);
        CHECK.none(x, "pupil -1", x.left(-1, 0), 1);
        CHECK.none(x, "pupil 3", x.left(3, 0), 1);
        ThornSchool y = Check.with("lesson a hours 1;lesson b hours 2 needs a;lesson c hours 4 needs b;pupil p at 0 knows b;");
        CHECK.done(y, "a is left, though b is known", y.left(0, 2), 5);
    }
}
