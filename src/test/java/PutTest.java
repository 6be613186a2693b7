/** Promise 11: put. */
public final class PutTest {
    public static void main(String[] args) {
        placeMustBeThere();
        lastPlaceIsOneMore();
        placesOfAnEmptyStream();
        the1001stIsRefused();
        lowestEightBits();
        changesNothingElse();
        Check.done();
    }

    private static void placeMustBeThere() {
        int[] wrong = {-1, -2, 61, 1000, 1001, Integer.MIN_VALUE, Integer.MAX_VALUE};
        for (int k : wrong) {
            Check.refused("put at " + k, Made.busy(), t -> t.put(k, 1));
        }
        int[] right = {0, 1, 58, 59};
        for (int k : right) {
            Run x = Made.busy();
            Check.yes("put at " + k, x.put(k, 99));
            Check.same("at " + k, x.at(k), 99);
            Check.same("how many", x.at(-1), 60);
        }
    }

    private static void lastPlaceIsOneMore() {
        Run x = Made.busy();
        Check.yes("put at 60", x.put(60, 99));
        Check.same("how many", x.at(-1), 61);
        Check.same("at 60", x.at(60), 99);
        Check.same("at 59", x.at(59), 7);
        Check.same("at 61", x.at(61), -1);
        Check.yes("put at 61", x.put(61, 98));
        Check.refused("put at 63", x, t -> t.put(63, 97));
    }

    private static void placesOfAnEmptyStream() {
        Check.refused("put at 1", new Run(), t -> t.put(1, 1));
        Check.refused("put at -1", new Run(), t -> t.put(-1, 1));
        Run x = new Run();
        Check.yes("put at 0", x.put(0, 1));
        Check.same("how many", x.at(-1), 1);
        x.cut(0);
        Check.refused("put at 1 behind cut", x, t -> t.put(1, 1));
    }

    private static void the1001stIsRefused() {
        Run x = new Run();
        Made.for999Bytes(x);
        x.write(0);
        Check.refused("put at 1000 of 999", x, t -> t.put(1000, 1));
        Check.yes("the 1000th", x.put(999, 1));
        Check.same("how many", x.at(-1), 1000);
        Check.refused("the 1001st", x, t -> t.put(1000, 1));
        Check.refused("the 1002nd", x, t -> t.put(1001, 1));
        Check.yes("the 1000th again", x.put(999, 2));
        Check.yes("the first", x.put(0, 3));
        Check.same("the 1000th", x.at(999), 2);
        Check.same("the first", x.at(0), 3);
        Check.same("how many", x.at(-1), 1000);
        x.cut(999);
        Check.yes("the 1000th behind cut", x.put(999, 4));
    }

    private static void lowestEightBits() {
        int[] values = {0, 1, 127, 128, 254, 255, 256, 257, -1, -2, -128, -129, -256, Integer.MIN_VALUE, Integer.MAX_VALUE};
        int[] due = {0, 1, 127, 128, 254, 255, 0, 1, 255, 254, 128, 127, 0, 0, 255};
        Run x = new Run();
        for (int k = 0; k < values.length; k++) {
            Check.yes("put of " + values[k], x.put(k, values[k]));
            Check.same("what is put of " + values[k], x.at(k), due[k]);
            Check.yes("put of " + values[k] + " in place of another", x.put(0, values[k]));
            Check.same("what is put of " + values[k], x.at(0), due[k]);
        }
    }

    private static void changesNothingElse() {
        Check.leaves("put of what is there", Made.busy(), 1, t -> t.put(59, 7) ? 1 : 0);
        Run x = Made.busy();
        String before = State.things(x, 0) + State.things(x, 1) + State.limits(x) + x.position();
        x.put(59, 8);
        x.put(60, 9);
        Check.same("all but the stream", State.things(x, 0) + State.things(x, 1) + State.limits(x) + x.position(), before);
    }
}
