import java.util.ArrayList;
import java.util.List;
import java.util.Map;
import java.util.Random;
import java.util.TreeMap;
import java.util.function.Consumer;

/** All promises: the same calls, chosen by fixed seeds, on the class and on the oracle. */
public final class OracleTest {
    private static final int RUNS = 6000;
    private static final int LONG_STREAMS = 2000;
    // A run ends before it has the 512 calls of the document; the room is for the calls of its last step.
    private static final int MOST_CALLS = 500;
    private static final int CALLS_OF_A_STEP = 60;
    private static final int[] TAGS = {112, 113, 114, 115, 117, 172, 237, 111, 116, 118};

    private final Random random;
    private final Oracle oracle = new Oracle();
    private final Map<String, Integer> outcomes;
    private final String run;
    private final List<Consumer<Run>> madeOnSide1 = new ArrayList<>();
    private Run x = new Run();

    private OracleTest(int seed, Map<String, Integer> outcomes) {
        random = new Random(seed);
        run = "run " + seed + ": ";
        this.outcomes = outcomes;
    }

    public static void main(String[] args) {
        Map<String, Integer> outcomes = new TreeMap<>();
        for (int seed = 0; seed < RUNS; seed++) {
            OracleTest test = new OracleTest(seed, outcomes);
            test.makeShapes();
            while (test.x.changeCount() < MOST_CALLS - CALLS_OF_A_STEP) {
                test.step();
            }
        }
        for (int seed = RUNS; seed < RUNS + LONG_STREAMS; seed++) {
            new OracleTest(seed, outcomes).readLongStream();
        }
        for (String outcome : new String[] {"right", "wrong", "strange", "filtered"}) {
            Check.yes("enough reads that are " + outcome, outcomes.getOrDefault(outcome, 0) > 1000);
        }
        Check.done();
    }

    /** The stream of a new object has up to 1000 bytes, which takes most of its calls: side 0 is not compared. */
    private void readLongStream() {
        makeShapes();
        int[] bytes = new Grammar(500, oneOf(4)).bytes();
        x = Run.of(bytes);
        for (int b : bytes) {
            oracle.put(oracle.at(-1), b);
        }
        madeOnSide1.forEach(call -> call.accept(x));
        compareStreams();
        readAndCompare();
        x.limit(2, 20);
        oracle.limit(2, 20);
        readAndCompare();
        spoil();
        readAndCompare();
    }

    private int below(int bound) {
        return random.nextInt(bound);
    }

    private boolean oneOf(int n) {
        return below(n) == 0;
    }

    /** Mostly 0 .. most, now and then just beside or far off. */
    private int about(int most) {
        if (oneOf(40)) {
            return random.nextInt();
        }
        return oneOf(15) ? (oneOf(2) ? -1 - below(2) : most + 1 + below(2)) : below(most + 1);
    }

    private void same(String call, boolean got, boolean due) {
        Check.same(run + call, got ? 1 : 0, due ? 1 : 0);
    }

    /** Both sides get much the same shapes, so that many streams can be read. */
    private void makeShapes() {
        for (int shape = 0; shape <= 5; shape++) {
            int parent = oneOf(3) ? -1 : below(shape + 1) - 1;
            int mark = oneOf(3) ? random.nextInt() : below(3);
            boolean onBoth = !oneOf(8);
            shape(0, shape, parent, mark);
            if (onBoth) {
                shape(1, shape, oneOf(5) ? below(shape + 1) - 1 : parent, oneOf(20) ? mark + 1 : mark);
            }
            for (int k = below(5); k > 0; k--) {
                int name = below(10);
                int kind = oneOf(2) ? 4 : below(4);
                if (!oneOf(6)) {
                    field(0, shape, name, kind);
                }
                if (!oneOf(6)) {
                    field(1, shape, name, oneOf(30) ? below(5) : kind);
                }
            }
        }
    }

    private void shape(int side, int shape, int parent, int mark) {
        same("shape", x.shape(side, shape, parent, mark), oracle.shape(side, shape, parent, mark));
        if (side == 1) {
            madeOnSide1.add(y -> y.shape(1, shape, parent, mark));
        }
    }

    private void field(int side, int shape, int name, int kind) {
        same("field", x.field(side, shape, name, kind), oracle.field(side, shape, name, kind));
        if (side == 1) {
            madeOnSide1.add(y -> y.field(1, shape, name, kind));
        }
    }

    private void step() {
        switch (below(16)) {
            case 0: reshape(); break;
            case 1: makeThings(); break;
            case 2: case 3: tieThings(); break;
            case 4: case 5: case 6: write(about(x.things(0))); readAndCompare(); break;
            case 7: case 8: spoil(); readAndCompare(); break;
            case 9: case 10: case 11: new Grammar(60, oneOf(2)).fill(); readAndCompare(); break;
            case 12: case 13: limits(); break;
            case 14: cutOrAdd(); readAndCompare(); break;
            default: ask();
        }
    }

    private void reshape() {
        if (oneOf(3)) {
            x.clear();
            oracle.clear();
        }
        if (oneOf(4)) {
            shape(about(1), about(5), about(5), below(3));
        }
        field(about(1), about(5), about(9), about(4));
    }

    private void makeThings() {
        for (int k = below(14); k > 0; k--) {
            int n = about(5);
            if (oneOf(3)) {
                Check.same(run + "row", x.row(n), oracle.row(n));
            } else {
                Check.same(run + "build", x.build(n), oracle.build(n));
            }
        }
    }

    private void tieThings() {
        for (int k = 0; k < 25; k++) {
            int thing = about(Math.max(0, x.things(0) - 1));
            int to = about(Math.max(0, x.things(0) - 1));
            int shape = x.thing(0, thing, 0) >= 0 && oneOf(2) ? x.thing(0, thing, 0) : about(5);
            int name = about(9);
            long value = oneOf(2) ? to : random.nextLong();
            same("link", x.link(thing, k % 5, to), oracle.link(thing, k % 5, to));
            same("set", x.set(thing, shape, name, value), oracle.set(thing, shape, name, value));
        }
    }

    private void write(int thing) {
        Check.same(run + "write", x.write(thing), oracle.write(thing));
        compareStreams();
    }

    private void compareStreams() {
        int count = x.at(-1);
        Check.same(run + "at(-1)", count, oracle.at(-1));
        for (int k = -2; k <= count + 1; k++) {
            Check.same(run + "at " + k, x.at(k), oracle.at(k));
        }
    }

    private void put(int k, int b) {
        same("put", x.put(k, b), oracle.put(k, b));
    }

    private void spoil() {
        for (int k = below(3); k >= 0; k--) {
            int place = about(Math.max(0, x.at(-1) - 1));
            put(place, oneOf(3) ? random.nextInt() : oneOf(2) ? TAGS[below(TAGS.length)] : below(6));
        }
    }

    private void cutOrAdd() {
        if (oneOf(2)) {
            int n = about(x.at(-1));
            same("cut", x.cut(n), oracle.cut(n));
        } else {
            put(x.at(-1), below(256));
        }
    }

    private void limits() {
        int[] most = {1000, 5, 40, 10};
        int what = about(3);
        int highest = what >= 0 && what < 4 ? most[what] : 5;
        int limit = oneOf(2) ? highest : about(highest);
        same("limit", x.limit(what, limit), oracle.limit(what, limit));
    }

    private void readAndCompare() {
        String got = x.read();
        Check.same(run + "read of " + x.bytes(), got, oracle.read());
        String kind = Character.isDigit(got.charAt(0)) ? "right" : got.substring(0, got.indexOf(' '));
        outcomes.merge(kind, 1, Integer::sum);
        compareThings(1);
    }

    private void compareThings(int side) {
        Check.same(run + "things", x.things(side), oracle.things(side));
        for (int thing = 0; thing < x.things(side); thing++) {
            Check.same(run + "shape of thing", x.thing(side, thing, 0), oracle.thing(side, thing, 0));
            Check.same(run + "length of thing", x.thing(side, thing, 1), oracle.thing(side, thing, 1));
            for (int shape = 0; shape < 6; shape++) {
                for (int name = 0; name < 10; name++) {
                    Check.same(run + "get", x.get(side, thing, shape, name), oracle.get(side, thing, shape, name));
                }
                Check.same(run + "goes", x.goes(side, thing, shape), oracle.goes(side, thing, shape));
            }
        }
    }

    private void ask() {
        int side = about(1);
        int thing = about(24);
        Check.same(run + "things", x.things(side), oracle.things(side));
        Check.same(run + "thing", x.thing(side, thing, side), oracle.thing(side, thing, side));
        int shape = about(5);
        int name = about(9);
        Check.same(run + "get", x.get(side, thing, shape, name), oracle.get(side, thing, shape, name));
        Check.same(run + "goes", x.goes(side, thing, shape), oracle.goes(side, thing, shape));
        Check.same(run + "position", x.position(), oracle.position());
        compareThings(0);
    }

    /** Streams that writing never gives: descriptions told twice, parents of other numbers, unused handles. */
    private final class Grammar {
        private final boolean faulty;
        private final List<Integer> bytes = new ArrayList<>();
        // For each handle the number of its description, or -1 for a thing.
        private final List<Integer> told = new ArrayList<>();
        // The kinds of the fields of a description's chain, as text: each one's behind its parents'.
        private final Map<Integer, String> kindsByHandle = new TreeMap<>();
        private int valuesLeft;
        private int thingsLeft;

        Grammar(int values, boolean faulty) {
            this.faulty = faulty;
            valuesLeft = values;
            thingsLeft = faulty ? values : 40;
        }

        int[] bytes() {
            add(172);
            add(237);
            value(1);
            return bytes.stream().limit(1000).mapToInt(b -> b & 255).toArray();
        }

        void fill() {
            int[] all = bytes();
            same("cut", x.cut(0), oracle.cut(0));
            for (int k = 0; k < all.length && x.changeCount() < MOST_CALLS - 1; k++) {
                put(k, all[k]);
            }
            compareStreams();
        }

        private boolean fault(int n) {
            return faulty && oneOf(n);
        }

        private void add(int b) {
            bytes.add(b);
        }

        private void handle(int handle) {
            add(113);
            add(handle >> 8);
            add(handle);
        }

        private void value(int depth) {
            valuesLeft--;
            boolean mayBeThing = valuesLeft >= 0 && thingsLeft > 0 && depth <= (faulty ? 11 : 10);
            int what = !mayBeThing ? below(2) : depth == 1 ? 2 + below(4) : below(6);
            if (what == 0) {
                add(112);
            } else if (what == 1) {
                thingHandle();
            } else if (what <= 3 || !faulty && oracle.shapeCount() == 0) {
                row(depth);
            } else {
                record(depth);
            }
        }

        private void row(int depth) {
            int length = below(6);
            add(117);
            add(fault(60) ? below(256) : length);
            giveThingHandle();
            for (int k = 0; k < length; k++) {
                value(depth + 1);
            }
        }

        private void giveThingHandle() {
            told.add(-1);
            thingsLeft--;
        }

        private void thingHandle() {
            if (fault(60)) {
                handle(oneOf(2) ? below(told.size() + 2) : below(65536));
                return;
            }
            for (int k = 0; k < 10; k++) {
                int handle = below(told.size() + 1);
                if (handle < told.size() && told.get(handle) == -1) {
                    handle(handle);
                    return;
                }
            }
            add(112);
        }

        private void record(int depth) {
            add(115);
            String kinds = description(6, true);
            giveThingHandle();
            for (int k = 0; k < kinds.length(); k++) {
                int kind = kinds.charAt(k) - '0';
                for (int n = kind == 4 ? 0 : 1 << kind; n > 0; n--) {
                    add(random.nextInt());
                }
                if (kind == 4) {
                    value(depth + 1);
                }
            }
        }

        private String description(int below, boolean ofRecord) {
            if (!ofRecord && (below == 0 || oneOf(3)) || fault(200)) {
                add(112);
                return "";
            }
            if (oneOf(2)) {
                for (int handle = below(told.size() + 1); handle < told.size(); handle++) {
                    if (mayName(told.get(handle), below, ofRecord)) {
                        handle(handle);
                        return kindsByHandle.getOrDefault(handle, "");
                    }
                }
            }
            return newDescription(below, ofRecord);
        }

        private boolean mayName(int number, int below, boolean ofRecord) {
            return number >= 0 && (number < below || fault(10)) && (!ofRecord || faulty || oracle.hasShape(number));
        }

        private int chooseNumber(int below, boolean ofRecord) {
            if (fault(60)) {
                return below(8);
            }
            int number = below(Math.max(1, below));
            while (ofRecord && !faulty && !oracle.hasShape(number)) {
                number = below(6);
            }
            return number;
        }

        private String newDescription(int below, boolean ofRecord) {
            int number = chooseNumber(below, ofRecord);
            add(114);
            add(number);
            int mark = fault(60) ? random.nextInt() : oracle.markOf(number);
            for (int k = 3; k >= 0; k--) {
                add(mark >> 8 * k);
            }
            String fields = fields(number);
            add(fault(200) ? 5 : fields.length() / 2);
            StringBuilder kinds = new StringBuilder();
            for (int k = 0; k < fields.length(); k++) {
                add(fields.charAt(k) - '0');
                if (k % 2 == 1) {
                    kinds.append(fields.charAt(k));
                }
            }
            int handle = told.size();
            told.add(number);
            String all = description(number, false) + kinds;
            kindsByHandle.put(handle, all);
            return all;
        }

        /** Names and kinds, mostly in order, mostly as side 1 has them. */
        private String fields(int number) {
            TreeMap<Integer, String> inOrder = new TreeMap<>();
            for (int name = 0; name < 10 && inOrder.size() < 4; name++) {
                int kind = oracle.kindOf(number, name);
                if (kind >= 0 ? !oneOf(5) : oneOf(12)) {
                    int told = kind < 0 || fault(100) ? below(5) : kind;
                    int rank = fault(100) ? below(20) : name + (told == 4 ? 10 : 0);
                    inOrder.put(rank, name + "" + told);
                }
            }
            return String.join("", inOrder.values());
        }
    }
}
