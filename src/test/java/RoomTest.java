import com.sun.management.ThreadMXBean;
import java.lang.management.ManagementFactory;

/**
 * All calls of a run live in one room of some 600,000 objects and 7.3 million fields: a new object, and some 500 calls, may
 * take a small part of it. (As it stands no call makes an object at all.)
 */
public final class RoomTest {
    private static final Check CHECK = new Check();

    public static void main(String[] args) {
        ThreadMXBean room = (ThreadMXBean) ManagementFactory.getThreadMXBean();
        long id = Thread.currentThread().getId();
        allCalls(new ThornSchool());
        room.getThreadAllocatedBytes(id);
        long ahead = room.getThreadAllocatedBytes(id);
        ThornSchool x = new ThornSchool();
        long made = room.getThreadAllocatedBytes(id);
        CHECK.yes("a new object takes at most 400,000 bytes, not " + (made - ahead), made - ahead <= 400000);
        // what the bean itself makes is taken off by a look without calls
        long idle = room.getThreadAllocatedBytes(id);
        idle = room.getThreadAllocatedBytes(id) - idle;
        long first = room.getThreadAllocatedBytes(id);
        allCalls(x);
        long last = room.getThreadAllocatedBytes(id);
        CHECK.yes("calls take at most 4,000,000 bytes, not " + (last - first - idle), last - first - idle <= 4000000);
        System.out.println("a new object took " + (made - ahead) + " bytes, its calls " + (last - first - idle));
        CHECK.end();
    }

    // made ahead, so that feeding them takes no room; each is some twenties of bytes
    private static final int[] SCHOOL = ints("thicket 3 by 2;thorns 1 3;lesson l hours 2;pupil p at 0;pupil q at 3;           ");
    private static final int[] AUTUMNS = ints("any;loop 9;any;end; ");

    private static int[] ints(String s) {
        int[] v = new int[s.length() / 20 * 5];
        for (int i = 0; i < v.length * 4; i++) v[i / 4] |= s.charAt(i) << (24 - i % 4 * 8);
        return v;
    }

    private static void feed(ThornSchool x, int[] v) {
        for (int i = 0; i + 4 < v.length; i += 5) x.feed(v[i], v[i + 1], v[i + 2], v[i + 3], v[i + 4]);
    }

    private static void allCalls(ThornSchool x) {
        feed(x, SCHOOL);
        CHECK.same("school", x.school(69), 2);
        feed(x, AUTUMNS);
        CHECK.same("autumns", x.autumns(20), 3);
        for (int i = 0; i < 3; i++) {
            x.mark();
            trays(x);
            deeds(x);
            walks(x);
            others(x);
            x.live(i);
            x.lived(0);
            x.mean(0, 20);
        }
        for (int i = 0; i < 4; i++) x.undo();
        x.autumns(0);
        x.feed(0, 0, 0, 0, 0);
        x.school(20);
        x.fault(0);
    }

    private static void trays(ThornSchool x) {
        x.tray(0, 3, 60);
        x.write(0, 0, 1);
        x.read(0, 0);
        x.pour(0, 0, 0, 1, 59);
        x.copyThorns(0);
        x.tray(0, 0, 60);
    }

    private static void deeds(ThornSchool x) {
        for (int i = 0; i < 11; i++) x.told(i);
        x.cell(0, 0);
        x.lesson(0, 0);
        x.pupil(0, 0);
        x.catches(0, 1);
        x.pick(0);
        x.go(0, 1);
        x.free(1, 0);
        x.tear(0);
        x.go(0, 0);
        x.year(1);
        x.plant(0, 0, 1);
        x.wish(0, 1);
        x.teach(0, 0, true);
        x.come(0);
        x.rule(3);
    }

    private static void walks(ThornSchool x) {
        for (int i = 0; i < 6; i++) {
            x.reach(0);
            x.far(0, i);
            x.way(0, i, 1);
            x.calm(0, i);
            x.pricks(0, i);
            x.opening(0, i);
            x.chance(0, i);
        }
        x.freed();
        x.helpers(0);
        x.learns(0);
    }

    private static void others(ThornSchool x) {
        x.alone(0);
        x.together(0);
        x.orders();
        x.orderAt(0);
        x.left(0, 0);
        x.fits(0, 0, 20);
        x.fitsAt(0, 0, 20, 0);
        x.ask(0, 0, 20);
        x.whose(0, 20);
        x.game(0, 1, 4);
        x.moveOf(0, 1, 4);
        x.slips(12, 6);
    }
}
