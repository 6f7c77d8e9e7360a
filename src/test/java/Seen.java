import java.util.function.Supplier;
import java.util.function.ToLongFunction;

/**
 * All that can be seen of an object: what it tells, its TRAYS, its tape, its AUTUMNS, its MARKS OF ALL.
 * Looking at some of it changes it, so each part is looked at in an object made anew.
 */
final class Seen {
    private final StringBuilder b = new StringBuilder();

    /** What is seen of an object that is made so, behind a call. */
    static String behind(Supplier<ThornSchool> made, ToLongFunction<ThornSchool> call) {
        Seen seen = new Seen();
        for (int part = 0; part < 6; part++) {
            ThornSchool x = made.get();
            call.applyAsLong(x);
            switch (part) {
                case 0: seen.toldOnes(x); seen.school(x); break;
                // no object is asked more than 512 times, so that full rows take two objects
                case 1: seen.trays(x, 0, 1); break;
                case 2: seen.trays(x, 2, 3); break;
                case 3: seen.tape(x); break;
                case 4: seen.autumns(x); break;
                default: seen.marks(x);
            }
        }
        return seen.b.toString();
    }

    static String of(Supplier<ThornSchool> made) {
        return behind(made, x -> 0);
    }

    private void add(String what, long v) {
        b.append(what).append(v).append(' ');
    }

    private void toldOnes(ThornSchool x) {
        add("top", x.top());
        add("bottom", x.bottom());
        add("fault", x.fault(0));
        add("at", x.fault(1));
        lived(x);
    }

    private void lived(ThornSchool x) {
        for (int i = 0; i < 5; i++) add("lived", x.lived(i));
    }

    private void school(ThornSchool x) {
        for (int i = 0; i < 11; i++) add("told" + i + ":", x.told(i));
        int cells = x.told(0) * x.told(1);
        for (int c = 0; c < cells; c++) for (int i = 0; i < 3; i++) add("cell" + c + "," + i + ":", x.cell(c, i));
        for (int l = 0; l < x.told(2); l++) for (int i = 0; i < 3; i++) add("lesson" + l + "," + i + ":", x.lesson(l, i));
        for (int p = 0; p < x.told(3); p++) for (int i = 0; i < 7; i++) add("pupil" + p + "," + i + ":", x.pupil(p, i));
    }

    private void trays(ThornSchool x, int first, int last) {
        for (int t = first; t <= last; t++) {
            for (int i = 0; i <= 60; i++) {
                long v = x.read(t, i);
                int status = x.status();
                if (status == 0) add("tray" + t + "," + i + ":", v);
                else add("tray" + t + "," + i + " status", status);
                if (status != 0) break;
            }
            // its sort is seen by what it cuts
            x.write(t, 0, 0x1234_5678_9ABC_DEF0L);
            add("sort", x.read(t, 0));
        }
    }

    private void tape(ThornSchool x) {
        int fed = x.feed(0x20202020, 0x20202020, 0x20202020, 0x20202020, 0x20202020);
        add("fed", fed);
        add("school", x.school(fed < 0 ? 900 : fed));
        toldOnes(x);
        school(x);
    }

    private void mean(ThornSchool x, int many) {
        // if there are no AUTUMNS the FRACTION told ahead would stay
        x.slips(0, 0);
        x.mean(3, many);
        add("mean's status", x.status());
        add("mean", x.top());
        add("by", x.bottom());
    }

    private void autumns(ThornSchool x) {
        mean(x, 20);
        add("live", x.live(5));
        lived(x);
        for (int i = 5; i < 11; i++) add("told" + i + ":", x.told(i));
        for (int p = 0; p < x.told(3); p++) add("at", x.pupil(p, 0));
    }

    private void marks(ThornSchool x) {
        for (int i = 0; i < 4; i++) {
            add("undo", x.undo());
            add("status", x.status());
            for (int k = 0; k < 11; k++) add("told" + k + ":", x.told(k));
            for (int p = 0; p < x.told(3); p++) for (int k = 0; k < 7; k++) add("pupil" + p + "," + k + ":", x.pupil(p, k));
            mean(x, 3);
        }
        add("mark", x.mark());
    }
}
