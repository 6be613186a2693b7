import java.util.ArrayList;
import java.util.Arrays;
import java.util.List;

/** Objects and streams that many tests begin with. */
final class Made {
    /** Just below and above what is there, and the ends of int. */
    static final int[] WRONG_SIDES = {-1, 2, Integer.MIN_VALUE, Integer.MAX_VALUE};
    static final int[] WRONG_SHAPES = {-1, 6, Integer.MIN_VALUE, Integer.MAX_VALUE};
    static final int[] WRONG_NAMES = {-1, 10, Integer.MIN_VALUE, Integer.MAX_VALUE};
    static final int[] WRONG_KINDS = {-1, 5, Integer.MIN_VALUE, Integer.MAX_VALUE};

    private Made() {
    }

    /**
     * All is other than at first. Both sides have shape 1 (name 3 of four bytes, name 4 a link), 2 (parent 0, which is
     * not there; name 5 of one byte) and 4 (parent 1; name 3 of two bytes, name 9 of eight, name 0 a link). Side 0 has
     * records 0 (shape 4) and 2 (shape 1), rows 1 (length 3) and 3 (length 0); side 1 has read them in the order
     * 0, 2, 1, 3; then a read threw at 59.
     */
    static Run busy() {
        Run x = new Run();
        for (int side = 0; side <= 1; side++) {
            shapes(x, side);
        }
        x.build(4);
        x.row(3);
        x.build(1);
        x.row(0);
        x.set(0, 4, 3, 300);
        x.set(0, 4, 9, -2);
        x.set(0, 4, 0, 1);
        x.set(0, 1, 3, 70000);
        x.set(0, 1, 4, 2);
        x.set(2, 1, 3, -7);
        x.link(1, 0, 0);
        x.link(1, 2, 3);
        x.write(0);
        Check.reads("what side 0 has written", x, "4 at -1");
        x.limit(0, 900);
        x.limit(1, 4);
        x.limit(2, 30);
        x.limit(3, 8);
        x.append(7);
        Check.reads("a byte too much", x, "wrong at 59");
        return x;
    }

    /** As busy, but side 0 has no things, so that its shapes may change. */
    static Run cleared() {
        Run x = busy();
        x.clear();
        return x;
    }

    /**
     * Side 1 has shapes 0 (mark 0, no fields) and 3 (parent 0, mark 9: name 2 of one byte, name 1 a link); it has read
     * a row that holds a record; then the stream became these bytes.
     */
    static Run shaped(int... bytes) {
        Run x = new Run();
        x.shape(1, 0, -1, 0);
        x.shape(1, 3, 0, 9);
        x.field(1, 3, 2, 0);
        x.field(1, 3, 1, 4);
        x.fill(172, 237, 117, 2, 115, 114, 3, 0, 0, 0, 9, 1, 2, 0, 112, 77, 113, 0, 0);
        Check.reads("the things before", x, "2 at -1");
        x.fill(bytes);
        return x;
    }

    private static void shapes(Run x, int side) {
        x.shape(side, 1, -1, -5);
        x.field(side, 1, 3, 2);
        x.field(side, 1, 4, 4);
        x.shape(side, 2, 0, 20);
        x.field(side, 2, 5, 0);
        x.shape(side, 4, 1, 40);
        x.field(side, 4, 3, 1);
        x.field(side, 4, 0, 4);
        x.field(side, 4, 9, 3);
    }

    /** Six shapes, each the parent of the next one, each with four fields of 8 bytes. */
    static void bigShapes(Run x, int side) {
        for (int shape = 0; shape < 6; shape++) {
            x.shape(side, shape, shape - 1, 0);
            for (int name = 0; name < 4; name++) {
                x.field(side, shape, name, 3);
            }
        }
    }

    /** Side 0 has 10 things, thing 0 holds all others and is written in 999 bytes; the last link of thing 5 is none. */
    static void for999Bytes(Run x) {
        bigShapes(x, 0);
        x.row(5);
        for (int k = 1; k <= 4; k++) {
            x.build(5);
            x.link(0, k - 1, k);
        }
        x.row(5);
        x.link(0, 4, 5);
        x.build(2);
        x.row(5);
        x.row(5);
        x.row(4);
        for (int k = 0; k < 4; k++) {
            x.link(5, k, 6 + k);
        }
    }

    /** Side 0 has as many things as it may: rows of length 1 and records of shape 0 with one field, a link, by turns. */
    static Run full() {
        Run x = new Run();
        x.shape(0, 0, -1, 0);
        x.field(0, 0, 0, 4);
        for (int k = 0; k < 24; k++) {
            Check.same("thing " + k, k % 2 == 0 ? x.row(1) : x.build(0), k);
        }
        return x;
    }

    /** A stream of so many rows, 1 or more, at most 4 deep for up to 156: the row number k begins at 2 + 2k. */
    static int[] rows(int count) {
        List<Integer> bytes = new ArrayList<>(List.of(172, 237));
        addRows(bytes, count);
        return bytes.stream().mapToInt(b -> b).toArray();
    }

    private static void addRows(List<Integer> bytes, int count) {
        int below = count - 1;
        int length = Math.min(5, below);
        bytes.addAll(List.of(117, length));
        for (int k = 0; k < length; k++) {
            addRows(bytes, below / length + (k < below % length ? 1 : 0));
        }
    }

    /** A stream of so many rows, each in the one before. */
    static int[] deepRows(int depth) {
        int[] bytes = new int[2 + 2 * depth + 1];
        bytes[0] = 172;
        bytes[1] = 237;
        for (int k = 1; k <= depth; k++) {
            bytes[2 * k] = 117;
            bytes[2 * k + 1] = 1;
        }
        bytes[2 + 2 * depth] = 112;
        return bytes;
    }

    /** A stream of a row of so many links to none. */
    static int[] rowOf(int length) {
        int[] bytes = new int[4 + length];
        Arrays.fill(bytes, 112);
        bytes[0] = 172;
        bytes[1] = 237;
        bytes[2] = 117;
        bytes[3] = length;
        return bytes;
    }
}
