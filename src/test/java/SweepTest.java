import java.util.Random;

/** Promises 14 and 15: streams that were written, each byte made every other one in turn, against the oracle. */
public final class SweepTest {
    private static final int STREAMS = 12;
    private static final int SHORTEST = 50;
    private static final int LONGEST = 110;
    // Then the next copy of the object is made, before its calls are used up.
    private static final int BYTES_OF_A_COPY = 64;

    private final Random random;
    private final Run x = new Run();
    private final Oracle oracle = new Oracle();
    private final String stream;

    private SweepTest(int seed) {
        random = new Random(seed);
        stream = "stream " + seed + ": ";
        makeShapes();
        makeThings();
    }

    public static void main(String[] args) {
        int found = 0;
        for (int seed = 0; seed < 1000 && found < STREAMS; seed++) {
            SweepTest test = new SweepTest(seed);
            if (test.isOfUse()) {
                found++;
                test.everyByte();
                test.everyEnd();
                test.everyLimit();
            }
        }
        Check.same("streams", found, STREAMS);
        Check.done();
    }

    private boolean isOfUse() {
        int count = x.write(0);
        Check.same(stream + "write", count, oracle.write(0));
        String answer = oracle.read();
        Check.same(stream + "read", x.read(), answer);
        return count >= SHORTEST && count <= LONGEST && isRight(answer);
    }

    private static boolean isRight(String answer) {
        return Character.isDigit(answer.charAt(0));
    }

    /** Both have read the stream as it was written, so that what throws must leave the same things. */
    private Run begin() {
        oracle.write(0);
        oracle.read();
        return x.copy();
    }

    private void makeShapes() {
        for (int shape = 0; shape < 6; shape++) {
            int parent = random.nextInt(shape + 1) - 1;
            int mark = random.nextInt(3) - 1;
            for (int side = 0; side <= 1; side++) {
                x.shape(side, shape, parent, mark);
                oracle.shape(side, shape, parent, mark);
            }
            for (int k = random.nextInt(4); k > 0; k--) {
                makeField(shape, random.nextInt(10), random.nextBoolean() ? 4 : random.nextInt(4));
            }
        }
    }

    /** Now and then on one side alone. */
    private void makeField(int shape, int name, int kind) {
        int without = random.nextInt(8);
        for (int side = 0; side <= 1; side++) {
            if (side != without) {
                x.field(side, shape, name, kind);
                oracle.field(side, shape, name, kind);
            }
        }
    }

    private void makeThings() {
        for (int k = 0; k < 6; k++) {
            int n = random.nextInt(6);
            boolean isRow = random.nextInt(3) == 0;
            Check.same(stream + "thing " + k, isRow ? x.row(n) : x.build(n), isRow ? oracle.row(n) : oracle.build(n));
        }
        for (int k = 0; k < 360; k++) {
            int to = random.nextInt(7) - 1;
            tie(k / 60, k / 10 % 6, k % 10, to);
        }
    }

    /** The oracle tells which calls do something: the others would use up the object's calls. */
    private void tie(int thing, int shape, int name, int to) {
        if (oracle.set(thing, shape, name, to)) {
            x.set(thing, shape, name, to);
        }
        if (shape == 0 && oracle.link(thing, name, to)) {
            x.link(thing, name, to);
        }
    }

    private void everyByte() {
        for (int k = 0; k < oracle.at(-1); k++) {
            for (int first = 0; first < 256; first += BYTES_OF_A_COPY) {
                everyByteAt(k, first, begin());
            }
        }
    }

    private void everyByteAt(int k, int first, Run copy) {
        for (int b = first; b < first + BYTES_OF_A_COPY; b++) {
            copy.put(k, b);
            oracle.put(k, b);
            compare(copy, "byte " + k + " is " + b);
        }
    }

    private void everyEnd() {
        Run copy = begin();
        int count = oracle.at(-1);
        for (int b : new int[] {0, 112, 117, 255}) {
            copy.put(count, b);
            oracle.put(count, b);
            compare(copy, "one byte more, " + b);
        }
        for (int n = count; n >= 0; n--) {
            copy.cut(n);
            oracle.cut(n);
            compare(copy, "cut to " + n);
        }
    }

    private void everyLimit() {
        Run copy = begin();
        int[] highest = {1000, 5, 40, 10};
        int[] lowest = {oracle.at(-1) + 1, 5, 8, 10};
        for (int what = 0; what < 4; what++) {
            for (int limit = lowest[what]; limit >= Math.max(0, lowest[what] - 10); limit--) {
                copy.limit(what, limit);
                oracle.limit(what, limit);
                compare(copy, "limit " + what + " is " + limit);
            }
            copy.limit(what, highest[what]);
            oracle.limit(what, highest[what]);
        }
    }

    private void compare(Run copy, String what) {
        String due = oracle.read();
        Check.same(stream + "read, " + what, copy.read(), due);
        Check.same(stream + "things, " + what, copy.things(1), oracle.things(1));
        if (isRight(due)) {
            compareThings(copy, stream + what);
        }
    }

    private void compareThings(Run copy, String what) {
        for (int thing = 0; thing < oracle.things(1); thing++) {
            Check.same(what + ", shape of " + thing, copy.thing(1, thing, 0), oracle.thing(1, thing, 0));
            for (int k = 0; k < 60; k++) {
                int shape = k / 10;
                int name = k % 10;
                Check.same(what + ", get of " + thing, copy.get(1, thing, shape, name), oracle.get(1, thing, shape, name));
            }
            for (int k = 0; k < 5; k++) {
                Check.same(what + ", goes of " + thing, copy.goes(1, thing, k), oracle.goes(1, thing, k));
            }
        }
    }
}
