/** Promise 4: build. */
public final class BuildTest {
    public static void main(String[] args) {
        shapesAre0To5();
        shapeMustBeThereOnSide0();
        thereAreAtMost24Things();
        numbersRiseFrom0();
        allIs0OrNone();
        nothingOfARecordBeforeShows();
        Check.done();
    }

    private static void shapesAre0To5() {
        for (int shape : Made.WRONG_SHAPES) {
            Check.leaves("build of shape " + shape, Made.busy(), -1, t -> t.build(shape));
        }
        for (int shape = 0; shape <= 5; shape++) {
            Run x = new Run();
            x.shape(0, shape, -1, 0);
            Check.same("build of shape " + shape, x.build(shape), 0);
            Check.same("its shape", x.thing(0, 0, 0), shape);
            Check.same("its length", x.thing(0, 0, 1), -1);
        }
    }

    private static void shapeMustBeThereOnSide0() {
        int[] notThere = {0, 3, 5};
        for (int shape : notThere) {
            Check.leaves("build of a shape that is not there", Made.busy(), -1, t -> t.build(shape));
            Run x = Made.busy();
            x.shape(1, shape, -1, 0);
            Check.leaves("build of a shape of side 1 alone", x, -1, t -> t.build(shape));
        }
        Run x = new Run();
        x.shape(0, 2, 1, 0);
        Check.same("build of a shape whose parent is not there", x.build(2), 0);
        Check.leaves("build of that parent", x, -1, t -> t.build(1));
    }

    private static void thereAreAtMost24Things() {
        Run x = new Run();
        x.shape(0, 0, -1, 0);
        x.field(0, 0, 0, 4);
        for (int k = 0; k < 23; k++) {
            x.build(0);
        }
        Check.same("things", x.things(0), 23);
        Check.same("the 24th", x.build(0), 23);
        Check.same("things", x.things(0), 24);
        x.set(0, 0, 0, 23);
        x.set(23, 0, 0, 0);
        Check.leaves("the 25th", x, -1, t -> t.build(0));
        Check.leaves("the 25th of no shape", x, -1, t -> t.build(1));
        Check.leaves("the 25th among rows", Made.full(), -1, t -> t.build(0));
        x.clear();
        Check.same("the first one behind clear", x.build(0), 0);
    }

    private static void numbersRiseFrom0() {
        Run x = Made.cleared();
        Check.same("first", x.build(4), 0);
        Check.same("second", x.build(4), 1);
        Check.same("refused", x.build(0), -1);
        Check.same("third, a row", x.row(0), 2);
        Check.same("fourth", x.build(2), 3);
        Check.same("shape of the first", x.thing(0, 0, 0), 4);
        Check.same("shape of the fourth", x.thing(0, 3, 0), 2);
        Check.same("things", x.things(0), 4);
        Check.same("side 1's things", x.things(1), 4);
    }

    /** The chain is 5, 3, 0; each shape has numbers and links. */
    private static Run withChain() {
        Run x = new Run();
        int[] chain = {0, 3, 5};
        for (int k = 0; k < 3; k++) {
            x.shape(0, chain[k], k == 0 ? -1 : chain[k - 1], 0);
            x.field(0, chain[k], 0, k);
            x.field(0, chain[k], 1, 3);
            x.field(0, chain[k], 8, 4);
            x.field(0, chain[k], 2, 4);
        }
        return x;
    }

    private static void allIs0OrNone() {
        Run x = withChain();
        x.build(5);
        int[] chain = {0, 3, 5};
        for (int shape : chain) {
            Check.same("a number of shape " + shape, x.get(0, 0, shape, 0), 0);
            Check.same("a number of eight bytes of shape " + shape, x.get(0, 0, shape, 1), 0);
            Check.same("a link of shape " + shape, x.get(0, 0, shape, 2), -1);
            Check.same("another link of shape " + shape, x.get(0, 0, shape, 8), -1);
        }
    }

    private static void nothingOfARecordBeforeShows() {
        Run x = withChain();
        x.build(5);
        x.row(5);
        String before = State.things(x, 0);
        int[] chain = {0, 3, 5};
        for (int shape : chain) {
            x.set(0, shape, 0, -1);
            x.set(0, shape, 1, -1);
            x.set(0, shape, 2, 1);
            x.set(0, shape, 8, 0);
        }
        for (int k = 0; k < 5; k++) {
            x.link(1, k, 0);
        }
        x.clear();
        x.build(5);
        x.row(5);
        Check.same("the same things behind clear", State.things(x, 0), before);
        x.clear();
        x.row(5);
        for (int k = 0; k < 5; k++) {
            x.link(0, k, 0);
        }
        x.clear();
        x.build(5);
        x.row(5);
        Check.same("a record where a row was, and the other way", State.things(x, 0), before);
    }
}
