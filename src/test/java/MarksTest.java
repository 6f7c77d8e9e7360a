/** Promises 54, 55: MARKS OF ALL, and what is taken back to them. */
public final class MarksTest {
    private static final Check CHECK = new Check();

    public static void main(String[] args) {
        counts();
        takesAllBack();
        takesBackStepByStep();
        takesBackAnotherSchool();
        takesBackAutumns();
        leavesTheRest();
        CHECK.end();
    }

    private static void counts() {
        ThornSchool x = new ThornSchool();
        CHECK.none(x, "undo without", x.undo(), 6);
        for (int i = 1; i <= 3; i++) CHECK.done(x, "mark", x.mark(), i);
        CHECK.none(x, "a fourth", x.mark(), 4);
        for (int i = 2; i >= 0; i--) CHECK.done(x, "undo", x.undo(), i);
        CHECK.none(x, "undo without", x.undo(), 6);
        CHECK.done(x, "mark again", x.mark(), 1);
        Check.school(x, "pupil p at 0;");
        CHECK.done(x, "marks stay behind a school", x.mark(), 2);
    }

    private static String all(ThornSchool x) {
        StringBuilder b = new StringBuilder();
        int[] told = new int[11];
        for (int i = 0; i < 11; i++) {
            told[i] = x.told(i);
            b.append(told[i]).append(' ');
        }
        for (int c = 0; c < told[0] * told[1]; c++) for (int i = 0; i < 3; i++) b.append(x.cell(c, i)).append(' ');
        for (int l = 0; l < told[2]; l++) for (int i = 0; i < 3; i++) b.append(x.lesson(l, i)).append(' ');
        for (int p = 0; p < told[3]; p++) for (int i = 0; i < 7; i++) b.append(x.pupil(p, i)).append(' ');
        return b.toString();
    }

    private static ThornSchool busy() {
        ThornSchool x = Check.with("thicket 3 by 2;odds 7;thorns 1 3;thorns 4 1;berries 4 6;berries 0 2;lesson a hours 3;lesson b hours 4 needs a;"
            + "pupil p at 0 want 2;pupil q at 2 want 1 knows a b;pupil r at 2 want 9 knows a;");
        x.pick(0);
        x.go(0, 1);
        x.go(2, 0);
        x.tear(2);
        x.year(3);
        return x;
    }

    private static void takesAllBack() {
        ThornSchool x = busy();
        String was = all(x);
        x.mark();
        x.tear(0);
        x.go(0, 0);
        x.go(1, 3);
        x.year(9);
        x.plant(3, 0, 9);
        x.plant(3, 1, 9);
        x.wish(0, 9);
        x.teach(0, 0, true);
        x.come(5);
        x.rule(16);
        CHECK.yes("all is otherwise", !was.equals(all(x)));
        x.undo();
        CHECK.yes("all is as it was", was.equals(all(x)));
    }

    private static void takesBackStepByStep() {
        ThornSchool x = busy();
        String[] was = new String[3];
        for (int i = 0; i < 3; i++) {
            was[i] = all(x);
            x.mark();
            x.year(1);
            x.rule(i);
            x.plant(0, 1, i + 1);
        }
        for (int i = 2; i >= 0; i--) {
            CHECK.done(x, "undo", x.undo(), i);
            CHECK.yes("as it was by mark " + i, was[i].equals(all(x)));
            x.year(20);
        }
        x = busy();
        x.mark();
        x.year(2);
        x.undo();
        x.year(20);
        x.mark();
        String then = all(x);
        x.year(1);
        x.undo();
        CHECK.yes("a mark of its own", then.equals(all(x)));
    }

    private static void takesBackAnotherSchool() {
        ThornSchool x = busy();
        String was = all(x);
        x.mark();
        Check.school(x, "thicket 5 by 5;thorns 24 9;lesson z hours 1;pupil y at 24;");
        x.undo();
        CHECK.yes("the old school", was.equals(all(x)));
        CHECK.done(x, "its names", Check.autumns(x, "tear p;tear q;tear r;"), 3);
        CHECK.none(x, "not the other's", Check.autumns(x, "tear y;"), 9);
        CHECK.done(x, "its lessons", x.alone(1), 7);
        x.mark();
        Check.school(x, "pupil p at 1;");
        x.undo();
        CHECK.same("its autumns", x.live(0), 3);
    }

    private static void takesBackAutumns() {
        ThornSchool x = busy();
        x.mark();
        Check.autumns(x, "any;loop 2;any;end;");
        x.mark();
        Check.autumns(x, "stop;");
        CHECK.same("the new ones", x.live(0), 1);
        x.undo();
        CHECK.same("the old ones", x.live(0), 4);
        x.undo();
        CHECK.none(x, "none again", x.live(0), 6);
        x.mark();
        Check.autumns(x, "any;");
        x.autumns(0);
        x.undo();
        CHECK.none(x, "none again", x.mean(0, 1), 6);
    }

    private static void leavesTheRest() {
        ThornSchool x = busy();
        x.mark();
        Check.row(x, 1, 5, 6);
        Check.feed(x, "odds 3;");
        x.slips(1, 1);
        x.undo();
        CHECK.same("trays stay", x.read(1, 1), 6);
        CHECK.same("the top stays", x.top(), 7);
        CHECK.same("the bottom stays", x.bottom(), 16);
        CHECK.same("the fault stays", x.fault(0), 0);
        CHECK.same("the tape stays", x.school(7), 0);
        CHECK.same("it is read", x.told(4), 3);
    }
}
