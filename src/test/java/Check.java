/** Counts the answers that are not as due, and feeds texts. */
final class Check {
    private int asked;
    private int wrong;

    void same(String what, long got, long due) {
        asked++;
        if (got == due) return;
        wrong++;
        if (wrong <= 40) System.out.println(what + " answered " + got + ", due is " + due);
    }

    void yes(String what, boolean got) {
        same(what, got ? 1 : 0, 1);
    }

    /** A call that is taken: its answer, and STATUS 0. */
    void done(ThornSchool x, String what, long got, long due) {
        same(what, got, due);
        same(what + ", its status", x.status(), 0);
    }

    void done(ThornSchool x, String what, boolean got) {
        done(x, what, got ? 1 : 0, 1);
    }

    /** A call that is not taken: NONE, and its STATUS. */
    void none(ThornSchool x, String what, long got, int status) {
        same(what, got, ThornSchool.NONE);
        same(what + ", its status", x.status(), status);
    }

    void none(ThornSchool x, String what, boolean got, int status) {
        same(what, got ? 1 : 0, 0);
        same(what + ", its status", x.status(), status);
    }

    void fraction(ThornSchool x, String what, boolean got, long top, long bottom) {
        done(x, what, got);
        same(what + ", its top", x.top(), top);
        same(what + ", its bottom", x.bottom(), bottom);
    }

    void fault(ThornSchool x, String what, long got, int fault, int place) {
        none(x, what, got, 9);
        same(what + ", its fault", x.fault(0), fault);
        same(what + ", its place", x.fault(1), place);
    }

    void end() {
        System.out.println(asked + " answers, " + wrong + " not as due");
        if (wrong != 0) System.exit(1);
    }

    static int feed(ThornSchool x, String text) {
        int fed = 0;
        for (int i = 0; i < text.length(); i += 20) {
            int[] v = new int[5];
            for (int k = 0; k < 20; k++) {
                int c = i + k < text.length() ? text.charAt(i + k) : 0;
                v[k / 4] |= (c & 255) << (24 - k % 4 * 8);
            }
            fed = x.feed(v[0], v[1], v[2], v[3], v[4]);
        }
        return fed;
    }

    static int school(ThornSchool x, String text) {
        feed(x, text);
        return x.school(text.length());
    }

    static int autumns(ThornSchool x, String text) {
        feed(x, text);
        return x.autumns(text.length());
    }

    /** A new object with a SCHOOL by a text. */
    static ThornSchool with(String text) {
        ThornSchool x = new ThornSchool();
        if (school(x, text) < 0) throw new IllegalStateException("fault " + x.fault(0) + " at " + x.fault(1) + " of " + text);
        return x;
    }

    /** A TRAY of 64 bits with these numbers. */
    static void row(ThornSchool x, int tray, long... v) {
        x.tray(tray, 3, v.length);
        for (int i = 0; i < v.length; i++) x.write(tray, i, v[i]);
    }
}
