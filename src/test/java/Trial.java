import java.util.function.Predicate;
import java.util.function.Supplier;
import java.util.function.ToLongFunction;

/** Calls, each tried on an object made anew: what they answer, and that nothing else changes by them. */
final class Trial {
    private final Check check;
    private final String name;
    private final Supplier<ThornSchool> made;
    private final String was;

    Trial(Check check, String name, Supplier<ThornSchool> made) {
        this.check = check;
        this.name = name;
        this.made = made;
        was = Seen.of(made);
    }

    /** A refused call gives NONE, has its STATUS, changes nothing else. */
    void none(String what, ToLongFunction<ThornSchool> call, int status) {
        refused(what, call, ThornSchool.NONE, status);
    }

    /** Likewise one that gives false. */
    void no(String what, Predicate<ThornSchool> call, int status) {
        refused(what, asNumber(call), 0, status);
    }

    private void refused(String what, ToLongFunction<ThornSchool> call, long gives, int status) {
        ThornSchool x = made.get();
        check.same(name + ": " + what, call.applyAsLong(x), gives);
        check.same(name + ": " + what + ", its status", x.status(), status);
        stays(what, call);
    }

    /** A call that is taken, whatever changes by it. */
    void done(String what, ToLongFunction<ThornSchool> call, long due) {
        ThornSchool x = made.get();
        // the STATUS of a call that is taken must be 0 behind a refused one, too
        x.told(-1);
        check.done(x, name + ": " + what, call.applyAsLong(x), due);
    }

    void yes(String what, Predicate<ThornSchool> call) {
        done(what, asNumber(call), 1);
    }

    /** A call that only asks: it is taken, and nothing changes by it. */
    void asks(String what, ToLongFunction<ThornSchool> call, long due) {
        done(what, call, due);
        stays(what, call);
    }

    /** A call that only tells a FRACTION: nothing else changes by it. */
    void tells(String what, Predicate<ThornSchool> call, long top, long bottom) {
        ThornSchool x = made.get();
        x.told(-1);
        check.fraction(x, name + ": " + what, call.test(x), top, bottom);
        String fraction = "top\\S+ bottom\\S+ ";
        String then = Seen.behind(made, asNumber(call));
        check.yes(name + ": " + what + ": all else stays as it is", was.replaceAll(fraction, "").equals(then.replaceAll(fraction, "")));
    }

    private void stays(String what, ToLongFunction<ThornSchool> call) {
        check.yes(name + ": " + what + ": all stays as it is", was.equals(Seen.behind(made, call)));
    }

    private static ToLongFunction<ThornSchool> asNumber(Predicate<ThornSchool> call) {
        return x -> call.test(x) ? 1 : 0;
    }
}
