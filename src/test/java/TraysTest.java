/** Promises 1 to 8: a new object, STATUS, FRACTION, TRAYS. */
public final class TraysTest {
    private static final Check CHECK = new Check();

    public static void main(String[] args) {
        newObject();
        statusOfCalls();
        trays();
        writes();
        reads();
        pours();
        poursInOneTray();
        CHECK.end();
    }

    private static void newObject() {
        ThornSchool x = new ThornSchool();
        CHECK.same("NONE", ThornSchool.NONE, -1);
        CHECK.same("status at first", x.status(), 0);
        CHECK.same("top at first", x.top(), 0);
        CHECK.same("bottom at first", x.bottom(), 1);
        int[] told = {4, 4, 0, 0, 2, 0, 0, 0, 0, 0, 0};
        for (int i = 0; i < told.length; i++) CHECK.done(x, "told at first " + i, x.told(i), told[i]);
        CHECK.same("fault(0) at first", x.fault(0), -1);
        CHECK.same("fault(1) at first", x.fault(1), -1);
        for (int t = 0; t < 4; t++) CHECK.none(x, "read at first", x.read(t, 0), 2);
        CHECK.none(x, "a tape with a byte", x.school(1), 1);
        CHECK.none(x, "live at first", x.live(0), 6);
        CHECK.none(x, "lived at first", x.lived(0), 6);
        CHECK.none(x, "mean at first", x.mean(0, 1), 6);
        CHECK.none(x, "undo at first", x.undo(), 6);
        CHECK.none(x, "a pupil at first", x.pupil(0, 0), 1);
        CHECK.none(x, "a lesson at first", x.lesson(0, 0), 1);
        CHECK.same("the constructor's cell 15", x.cell(15, 0), 0);
        CHECK.none(x, "no cell 16", x.cell(16, 0), 1);
    }

    private static void statusOfCalls() {
        ThornSchool x = new ThornSchool();
        CHECK.none(x, "a tray 4", x.tray(4, 0, 1), 1);
        x.top();
        x.bottom();
        x.fault(0);
        x.fault(7);
        x.feed(0, 0, 0, 0, 0);
        CHECK.same("these have no status", x.status(), 1);
        CHECK.same("status has none itself", x.status(), 1);
        for (int i = 0; i < 50; i++) x.feed(1, 2, 3, 4, 5);
        CHECK.same("feed in vain has none", x.status(), 1);
        CHECK.done(x, "told", x.told(0), 4);
        CHECK.fraction(x, "slips", x.slips(1, 1), 1, 8);
        CHECK.none(x, "slips in vain", x.slips(13, 1), 1);
        CHECK.same("the top stays", x.top(), 1);
        CHECK.same("the bottom stays", x.bottom(), 8);
        CHECK.fraction(x, "slips never", x.slips(0, 1), 0, 1);
    }

    private static void trays() {
        ThornSchool x = new ThornSchool();
        for (int t = 0; t < 4; t++) {
            CHECK.done(x, "tray", x.tray(t, t, 60));
            CHECK.done(x, "its last place", x.read(t, 59), 0);
            CHECK.none(x, "behind its last place", x.read(t, 60), 3);
        }
        CHECK.none(x, "tray -1", x.tray(-1, 0, 1), 1);
        CHECK.none(x, "tray 4", x.tray(4, 0, 1), 1);
        CHECK.none(x, "sort -1", x.tray(0, -1, 1), 1);
        CHECK.none(x, "sort 4", x.tray(0, 4, 1), 1);
        CHECK.none(x, "many -1", x.tray(0, 0, -1), 1);
        CHECK.none(x, "many 61", x.tray(0, 0, 61), 1);
        CHECK.done(x, "the old one stays", x.read(0, 59), 0);
        CHECK.done(x, "write", x.write(0, 1, 5));
        CHECK.done(x, "write", x.write(0, 0, 4));
        CHECK.done(x, "a tray again", x.tray(0, 0, 2));
        CHECK.done(x, "is 0s again", x.read(0, 1), 0);
        CHECK.done(x, "from its first place on", x.read(0, 0), 0);
        CHECK.none(x, "and short", x.read(0, 2), 3);
        CHECK.done(x, "an empty tray", x.tray(0, 0, 0));
        CHECK.none(x, "has no place", x.read(0, 0), 3);
    }

    private static void writes() {
        ThornSchool x = new ThornSchool();
        long v = 0x1234_5678_9ABC_DEF0L;
        long[] cut = {(byte) 0xF0, (short) 0xDEF0, 0x9ABCDEF0, v};
        for (int s = 0; s < 4; s++) {
            x.tray(s, s, 3);
            CHECK.done(x, "write", x.write(s, 2, v));
            CHECK.done(x, "cut to sort " + s, x.read(s, 2), cut[s]);
            CHECK.done(x, "beside it", x.read(s, 1), 0);
        }
        long[] most = {127, 32767, 2147483647L, Long.MAX_VALUE};
        for (int s = 0; s < 4; s++) {
            x.write(s, 0, most[s]);
            CHECK.done(x, "the most of sort " + s, x.read(s, 0), most[s]);
            x.write(s, 0, most[s] + 1);
            CHECK.done(x, "one more of sort " + s, x.read(s, 0), -most[s] - 1);
            x.write(s, 0, -1);
            CHECK.done(x, "-1 of sort " + s, x.read(s, 0), -1);
        }
        CHECK.none(x, "write to 4", x.write(4, 0, 1), 1);
        CHECK.none(x, "write to -1", x.write(-1, 0, 1), 1);
        CHECK.none(x, "write behind", x.write(0, 3, 1), 3);
        CHECK.none(x, "write ahead", x.write(0, -1, 1), 3);
        ThornSchool y = new ThornSchool();
        CHECK.none(y, "write to a missing one", y.write(0, 99, 1), 2);
        CHECK.none(y, "write to no tray", y.write(9, 99, 1), 1);
    }

    private static void reads() {
        ThornSchool x = new ThornSchool();
        CHECK.none(x, "read of a missing one", x.read(1, -5), 2);
        CHECK.none(x, "read of none", x.read(4, 0), 1);
        CHECK.none(x, "read of -1", x.read(-1, 0), 1);
        Check.row(x, 1, 10, -1, 30);
        CHECK.done(x, "read", x.read(1, 0), 10);
        CHECK.done(x, "-1 is no NONE", x.read(1, 1), -1);
        CHECK.done(x, "read", x.read(1, 2), 30);
        CHECK.none(x, "read behind", x.read(1, 3), 3);
        CHECK.none(x, "read ahead", x.read(1, -1), 3);
        CHECK.none(x, "read far behind", x.read(1, Integer.MAX_VALUE), 3);
        CHECK.none(x, "read far ahead", x.read(1, Integer.MIN_VALUE), 3);
    }

    private static void pours() {
        ThornSchool x = new ThornSchool();
        Check.row(x, 0, 1, 2, 3, 4);
        Check.row(x, 1, 9, 9, 9);
        CHECK.done(x, "pour", x.pour(0, 1, 1, 0, 2));
        holds(x, 1, 2, 3, 9);
        holds(x, 0, 1, 2, 3, 4);
        CHECK.done(x, "pour nothing at the ends", x.pour(0, 4, 1, 3, 0));
        CHECK.none(x, "nothing from beyond", x.pour(0, 5, 1, 3, 0), 3);
        CHECK.none(x, "nothing to beyond", x.pour(0, 4, 1, 4, 0), 3);
        CHECK.none(x, "too few there", x.pour(0, 3, 1, 0, 2), 3);
        CHECK.none(x, "too few places", x.pour(0, 0, 1, 2, 2), 3);
        CHECK.none(x, "by far too many", x.pour(0, 1, 1, 1, Integer.MAX_VALUE), 3);
        CHECK.none(x, "by far too late", x.pour(0, Integer.MAX_VALUE, 1, 0, 1), 3);
        holds(x, 1, 2, 3, 9);
        CHECK.none(x, "from 4", x.pour(4, 0, 1, 0, 1), 1);
        CHECK.none(x, "to -1", x.pour(0, 0, -1, 0, 1), 1);
        CHECK.none(x, "place below 0", x.pour(0, -1, 3, 0, 1), 1);
        CHECK.none(x, "at below 0", x.pour(0, 0, 3, -1, 1), 1);
        CHECK.none(x, "many below 0", x.pour(0, 0, 3, 0, -1), 1);
        CHECK.none(x, "from a missing one", x.pour(3, 0, 0, 0, 99), 2);
        CHECK.none(x, "to a missing one", x.pour(0, 0, 3, 0, 99), 2);
        x.tray(2, 2, 2);
        CHECK.none(x, "unlike sorts", x.pour(0, 0, 2, 0, 1), 8);
        CHECK.none(x, "unlike sorts ahead of too few", x.pour(0, 0, 2, 0, 99), 8);
        holds(x, 2, 0, 0);
    }

    private static void poursInOneTray() {
        ThornSchool x = new ThornSchool();
        Check.row(x, 0, 1, 2, 3, 4, 5);
        CHECK.done(x, "pour on", x.pour(0, 0, 0, 1, 4));
        holds(x, 0, 1, 1, 2, 3, 4);
        Check.row(x, 0, 1, 2, 3, 4, 5);
        CHECK.done(x, "pour back", x.pour(0, 1, 0, 0, 4));
        holds(x, 0, 2, 3, 4, 5, 5);
        CHECK.done(x, "pour to itself", x.pour(0, 0, 0, 0, 5));
        holds(x, 0, 2, 3, 4, 5, 5);
    }

    private static void holds(ThornSchool x, int tray, long... v) {
        for (int i = 0; i < v.length; i++) CHECK.same("place " + i + " of tray " + tray, x.read(tray, i), v[i]);
    }
}
