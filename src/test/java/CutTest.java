/** Promise 12: cut. */
public final class CutTest {
    public static void main(String[] args) {
        hasNotAsMany();
        hasTheFirstAlone();
        whatWasCutIsGone();
        ofAnEmptyStream();
        ofAFullStream();
        changesNothingElse();
        Check.done();
    }

    private static void hasNotAsMany() {
        int[] wrong = {61, 62, 1000, 1001, Integer.MAX_VALUE, -1, -2, Integer.MIN_VALUE};
        for (int n : wrong) {
            Check.refused("cut to " + n, Made.busy(), t -> t.cut(n));
        }
    }

    private static void hasTheFirstAlone() {
        Check.leaves("cut to all", Made.busy(), 1, t -> t.cut(60) ? 1 : 0);
        int[] right = {59, 58, 1, 0};
        for (int n : right) {
            Run x = Made.busy();
            String first = x.bytes();
            Check.yes("cut to " + n, x.cut(n));
            Check.same("how many", x.at(-1), n);
            Check.same("at " + n, x.at(n), -1);
            Check.yes("the first " + n, first.startsWith(x.bytes()));
            Check.refused("cut to one more", x, t -> t.cut(n + 1));
        }
    }

    private static void whatWasCutIsGone() {
        Run x = Run.of(172, 237, 117, 0);
        x.cut(3);
        Check.reads("what was cut", x, "wrong at 3");
        x.cut(2);
        x.put(2, 112);
        Check.same("stream", x.bytes(), "172 237 112");
        Check.reads("what was cut and put", x, "0 at -1");
    }

    private static void ofAnEmptyStream() {
        Check.leaves("cut to 0", new Run(), 1, t -> t.cut(0) ? 1 : 0);
        Check.refused("cut to 1", new Run(), t -> t.cut(1));
        Check.refused("cut to -1", new Run(), t -> t.cut(-1));
    }

    private static void ofAFullStream() {
        Run x = new Run();
        Made.for999Bytes(x);
        x.write(0);
        x.append(0);
        Check.refused("cut to 1001", x, t -> t.cut(1001));
        Check.leaves("cut to 1000", x, 1, t -> t.cut(1000) ? 1 : 0);
        Check.yes("cut to 999", x.cut(999));
        Check.refused("cut to 1000 of 999", x, t -> t.cut(1000));
        Check.yes("cut to 0", x.cut(0));
        Check.same("how many", x.at(-1), 0);
    }

    private static void changesNothingElse() {
        Run x = Made.busy();
        String before = State.things(x, 0) + State.things(x, 1) + State.limits(x) + x.position();
        x.cut(1);
        Check.same("all but the stream", State.things(x, 0) + State.things(x, 1) + State.limits(x) + x.position(), before);
    }
}
