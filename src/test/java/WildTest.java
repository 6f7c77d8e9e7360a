import java.lang.reflect.InvocationTargetException;
import java.lang.reflect.Method;
import java.util.ArrayList;
import java.util.Comparator;
import java.util.List;
import java.util.Random;

/** No call throws or fails to end, for any numbers in any state; STATUS is 0 to 9, the FRACTION has a bottom above 0. */
public final class WildTest {
    private static final Check CHECK = new Check();
    private static final int[] EDGES = {Integer.MIN_VALUE, Integer.MIN_VALUE + 1, -65536, -256, -2, -1, 0, 1, 2, 3, 4, 5, 6, 7, 9, 10, 12, 13, 16, 20, 21, 24, 25, 31, 32, 33,
        60, 61, 99, 100, 300, 301, 900, 901, 9999, 10000, 65535, 65536, 1 << 30, Integer.MAX_VALUE - 1, Integer.MAX_VALUE};
    private static final String[] TEXTS = {
        "thicket 5 by 5;thorns 7 3;berries 8 9;lesson a hours 9;lesson b hours 1 needs a;pupil p at 24 want 9 knows a b;pupil q at 7;pupil r at 6 want 1;",
        "thicket 1 by 1;pupil p at 0;", "", "thorns 5 9;pupil p at 4;pupil q at 6;lesson l hours 3;", "thicket 5 by 5;thicket", "pupil p at 99999;"};
    private static final String[] AUTUMNS = {"loop 99;loop 99;any;end;year 20;end;", "", "any;loop 9;when thorns 0<9;any;end;end;", "loop 99;loop 99;loop 99;end;end;end;",
        "go p left;free q p;tear p;pick p;when knows p>0;stop;end;year 1;", "loop 1;loop"};

    public static void main(String[] args) throws ReflectiveOperationException {
        List<Method> calls = new ArrayList<>();
        for (Method m : ThornSchool.class.getDeclaredMethods()) if (java.lang.reflect.Modifier.isPublic(m.getModifiers())) calls.add(m);
        calls.sort(Comparator.comparing(Method::getName));
        CHECK.same("calls", calls.size(), 54);
        Random draws = new Random(20261119);
        for (int i = 0; i < 400; i++) run(calls, draws, i % 4);
        CHECK.end();
    }

    /** The wilder, the more of the numbers are beside what a call takes. */
    private static void run(List<Method> calls, Random draws, int wild) throws ReflectiveOperationException {
        ThornSchool x = new ThornSchool();
        for (int i = 0; i < 200; i++) {
            if (i % 50 == 0) {
                Check.school(x, TEXTS[draws.nextInt(TEXTS.length)]);
                Check.autumns(x, AUTUMNS[draws.nextInt(AUTUMNS.length)]);
            }
            Method call = calls.get(draws.nextInt(calls.size()));
            // new texts would soon leave nobody there
            if (wild < 3 && call.getName().equals("school") && draws.nextInt(4) > 0) continue;
            Object[] v = new Object[call.getParameterCount()];
            for (int k = 0; k < v.length; k++) v[k] = number(call.getParameterTypes()[k], draws, wild);
            try {
                call.invoke(x, v);
                int status = x.status();
                CHECK.yes(call.getName() + ", its status", status >= 0 && status <= 9);
            } catch (InvocationTargetException e) {
                CHECK.same(call.getName() + java.util.Arrays.toString(v) + " threw " + e.getCause(), 1, 0);
            }
        }
        CHECK.yes("a bottom above 0", x.bottom() > 0);
    }

    private static Object number(Class<?> type, Random draws, int wild) {
        int v = draws.nextInt(4) < wild ? EDGES[draws.nextInt(EDGES.length)] : draws.nextInt(5);
        if (draws.nextInt(30) == 0) v = draws.nextInt();
        if (type == boolean.class) return (v & 1) == 0;
        if (type == long.class) return draws.nextBoolean() ? (long) v : draws.nextLong();
        return v;
    }
}
