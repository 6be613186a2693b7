import java.util.ArrayList;
import java.util.Arrays;
import java.util.List;
import java.util.Set;
import java.util.TreeSet;
import java.util.function.ToLongFunction;

/**
 * A ThingStream that is never called more than the document's 512 times: when they are used up, the calls that
 * may have changed it are made again on a new object, and that one goes on.
 */
final class Run {
    private static final int MOST_CALLS = 512;
    // What many puts would take too many calls for is written, eight bytes by each call of set.
    private static final int MOST_PUT = 300;

    private final List<ToLongFunction<ThingStream>> changes = new ArrayList<>();
    private final Set<Integer> marks = new TreeSet<>();
    private ThingStream x = new ThingStream();
    private int used = 0;

    /** A new object with these bytes as its stream; if they are many, side 0 has shapes and things, too. */
    static Run of(int... bytes) {
        Run made = new Run();
        if (bytes.length <= MOST_PUT) {
            made.fill(bytes);
        } else {
            made.fillByWriting(bytes);
        }
        return made;
    }

    Run copy() {
        Run copy = new Run();
        copy.changes.addAll(changes);
        copy.marks.addAll(marks);
        copy.repeatChanges();
        return copy;
    }

    private void repeatChanges() {
        x = new ThingStream();
        used = changes.size();
        for (ToLongFunction<ThingStream> call : changes) {
            try {
                call.applyAsLong(x);
            } catch (RuntimeException e) {
                // A read that threw throws again.
                continue;
            }
        }
    }

    private void makeRoom() {
        if (changes.size() >= MOST_CALLS) {
            throw new IllegalStateException("this test makes more than 512 calls");
        }
        if (used == MOST_CALLS) {
            repeatChanges();
        }
        used++;
    }

    int changeCount() {
        return changes.size();
    }

    long change(ToLongFunction<ThingStream> call) {
        makeRoom();
        changes.add(call);
        return call.applyAsLong(x);
    }

    private long ask(ToLongFunction<ThingStream> call) {
        makeRoom();
        return call.applyAsLong(x);
    }

    /** The marks that side 1's shapes may have. */
    Set<Integer> marks() {
        return marks;
    }

    boolean shape(int side, int shape, int parent, int mark) {
        marks.add(mark);
        return change(t -> t.shape(side, shape, parent, mark) ? 1 : 0) == 1;
    }

    boolean field(int side, int shape, int name, int kind) {
        return change(t -> t.field(side, shape, name, kind) ? 1 : 0) == 1;
    }

    int build(int shape) {
        return (int) change(t -> t.build(shape));
    }

    int row(int length) {
        return (int) change(t -> t.row(length));
    }

    boolean set(int thing, int shape, int name, long value) {
        return change(t -> t.set(thing, shape, name, value) ? 1 : 0) == 1;
    }

    boolean link(int thing, int k, int to) {
        return change(t -> t.link(thing, k, to) ? 1 : 0) == 1;
    }

    int write(int thing) {
        return (int) change(t -> t.write(thing));
    }

    void clear() {
        change(t -> {
            t.clear();
            return 0;
        });
    }

    int at(int k) {
        return (int) ask(t -> t.at(k));
    }

    boolean put(int k, int b) {
        return change(t -> t.put(k, b) ? 1 : 0) == 1;
    }

    boolean cut(int n) {
        return change(t -> t.cut(n) ? 1 : 0) == 1;
    }

    boolean limit(int what, int limit) {
        return change(t -> t.limit(what, limit) ? 1 : 0) == 1;
    }

    /** What read does, with the position behind it: "3 at -1", "wrong at 5", "strange at 3", "filtered at 2". */
    String read() {
        String answer;
        try {
            answer = String.valueOf(change(t -> t.read()));
        } catch (RuntimeException e) {
            answer = nameOf(e);
        }
        return answer + " at " + position();
    }

    private static String nameOf(RuntimeException e) {
        if (e.getClass() == IllegalArgumentException.class) {
            return "wrong";
        }
        if (e.getClass() == IllegalStateException.class) {
            return "strange";
        }
        return e.getClass() == UnsupportedOperationException.class ? "filtered" : e.toString();
    }

    int position() {
        return (int) ask(t -> t.position());
    }

    int things(int side) {
        return (int) ask(t -> t.things(side));
    }

    int thing(int side, int thing, int what) {
        return (int) ask(t -> t.thing(side, thing, what));
    }

    long get(int side, int thing, int shape, int name) {
        return ask(t -> t.get(side, thing, shape, name));
    }

    int goes(int side, int thing, int k) {
        return (int) ask(t -> t.goes(side, thing, k));
    }

    /** Empties the stream and puts these bytes in it. */
    void fill(int... bytes) {
        cut(0);
        for (int b : bytes) {
            append(b);
        }
    }

    boolean append(int b) {
        return put(at(-1), b);
    }

    String bytes() {
        StringBuilder all = new StringBuilder();
        int count = at(-1);
        for (int k = 0; k < count; k++) {
            all.append(k == 0 ? "" : " ").append(at(k));
        }
        return all.toString();
    }

    private void fillByWriting(int[] bytes) {
        int[] whole = Arrays.copyOf(bytes, 1000);
        Made.bigShapes(this, 0);
        row(4);
        int place = 4;
        for (int record = 1; record <= 4; record++) {
            build(5);
            link(0, record - 1, record);
            // 115 and its description: six of 15 bytes and 112, then 113 with the handle.
            place += record == 1 ? 92 : 4;
            for (int k = 0; k < 24; k++) {
                set(record, k / 4, k % 4, numberAt(whole, place));
                place += 8;
            }
        }
        write(0);
        for (int k = 0; k < bytes.length; k++) {
            if (at(k) != bytes[k]) {
                put(k, bytes[k]);
            }
        }
        cut(bytes.length);
    }

    private static long numberAt(int[] bytes, int place) {
        long value = 0;
        for (int k = 0; k < 8; k++) {
            value = value << 8 | bytes[place + k];
        }
        return value;
    }
}
