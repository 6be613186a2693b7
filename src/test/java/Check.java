import java.util.function.Predicate;
import java.util.function.ToLongFunction;

/** Counts answers that are not as due; every test ends with done(). */
final class Check {
    private static int wrong = 0;

    private Check() {
    }

    static void same(String what, long got, long due) {
        if (got != due) {
            wrong++;
            System.out.println(what + " answered " + got + ", due is " + due);
        }
    }

    static void same(String what, String got, String due) {
        if (!got.equals(due)) {
            wrong++;
            System.out.println(what + " answered '" + got + "', due is '" + due + "'");
        }
    }

    static void yes(String what, boolean got) {
        same(what, got ? 1 : 0, 1);
    }

    static void no(String what, boolean got) {
        same(what, got ? 1 : 0, 0);
    }

    static void reads(String what, Run x, String due) {
        same("read of " + what, x.read(), due);
    }

    /** The call answers false and leaves all as it was. */
    static void refused(String what, Run x, Predicate<ThingStream> call) {
        leaves(what, x, 0, t -> call.test(t) ? 1 : 0);
    }

    /** The call answers this and leaves all as it was. */
    static void leaves(String what, Run x, long due, ToLongFunction<ThingStream> call) {
        String before = State.of(x);
        same(what, x.change(call), due);
        same("the state behind " + what, State.of(x), before);
    }

    /** A read that throws leaves all but the position as it was. */
    static void throwsAndLeaves(String what, Run x, String due) {
        String before = State.withoutPosition(x);
        reads(what, x, due);
        same("the state behind a read of " + what, State.withoutPosition(x), before);
    }

    static void done() {
        if (wrong > 0) {
            System.out.println(wrong + " answers are not as due");
            System.exit(1);
        }
    }
}
