/** Promise 6: set. */
public final class SetTest {
    public static void main(String[] args) {
        recordMustBeThere();
        shapeMustBeInTheChain();
        nameMustBeThere();
        numbersAreCutToTheirBytes();
        linksAreToThingsOrNone();
        linksAreNotCut();
        eachFieldHasItsOwnValue();
        Check.done();
    }

    private static void recordMustBeThere() {
        int[] wrong = {-1, 4, 24, Integer.MIN_VALUE, Integer.MAX_VALUE};
        for (int thing : wrong) {
            Check.refused("set of thing " + thing, Made.busy(), t -> t.set(thing, 1, 3, 1));
        }
        Check.yes("set of thing 0", Made.busy().set(0, 1, 3, 1));
        Check.yes("set of thing 2", Made.busy().set(2, 1, 3, 1));
        int[] rows = {1, 3};
        for (int row : rows) {
            for (int shape = -1; shape <= 1; shape++) {
                int number = shape;
                Check.refused("set of a row", Made.busy(), t -> t.set(row, number, 3, 1));
            }
        }
        Run x = Made.busy();
        Check.yes("set of the last one", x.set(x.build(1), 1, 3, 1));
        x.clear();
        Check.refused("set of a thing that is gone", x, t -> t.set(0, 1, 3, 1));
    }

    private static void shapeMustBeInTheChain() {
        for (int shape : Made.WRONG_SHAPES) {
            Check.refused("set in shape " + shape, Made.busy(), t -> t.set(0, shape, 3, 1));
        }
        Run x = Made.busy();
        x.clear();
        x.field(0, 2, 3, 0);
        x.shape(0, 3, 1, 0);
        x.field(0, 3, 3, 0);
        x.build(4);
        x.build(1);
        Check.yes("its own shape", x.set(0, 4, 3, 1));
        Check.yes("its parent", x.set(0, 1, 3, 1));
        Check.refused("a shape beside", x, t -> t.set(0, 2, 3, 1));
        Check.refused("another shape of the same parent", x, t -> t.set(0, 3, 3, 1));
        Check.refused("a shape that is not there", x, t -> t.set(0, 0, 3, 1));
        Check.refused("a shape below, of the parent's record", x, t -> t.set(1, 4, 3, 1));
        Check.yes("the parent's record", x.set(1, 1, 3, 1));
    }

    private static void nameMustBeThere() {
        for (int name : Made.WRONG_NAMES) {
            Check.refused("set of name " + name, Made.busy(), t -> t.set(0, 4, name, 1));
        }
        for (int name = 0; name <= 9; name++) {
            int number = name;
            if (name == 0 || name == 3 || name == 9) {
                Check.yes("set of name " + name, Made.busy().set(0, 4, name, 1));
            } else {
                Check.refused("set of name " + name, Made.busy(), t -> t.set(0, 4, number, 1));
            }
        }
    }

    private static void numbersAreCutToTheirBytes() {
        int[] bits = {8, 16, 32, 64};
        for (int kind = 0; kind < 4; kind++) {
            Run x = new Run();
            x.shape(0, 0, -1, 0);
            x.field(0, 0, 5, kind);
            x.build(0);
            long most = (1L << bits[kind] - 1) - 1;
            long least = -most - 1;
            cuts(x, kind, 0, 0);
            cuts(x, kind, 1, 1);
            cuts(x, kind, -1, -1);
            cuts(x, kind, most - 1, most - 1);
            cuts(x, kind, most, most);
            cuts(x, kind, most + 1, least);
            cuts(x, kind, least + 1, least + 1);
            cuts(x, kind, least, least);
            cuts(x, kind, least - 1, most);
            cuts(x, kind, 2 * most + 1, -1);
            cuts(x, kind, 2 * most + 2, 0);
            cuts(x, kind, 2 * least - 1, -1);
            cuts(x, kind, Long.MAX_VALUE, kind == 3 ? Long.MAX_VALUE : -1);
            cuts(x, kind, Long.MIN_VALUE, kind == 3 ? Long.MIN_VALUE : 0);
        }
    }

    private static void cuts(Run x, int kind, long value, long due) {
        Check.yes("set of " + value, x.set(0, 0, 5, value));
        Check.same("what kind " + kind + " keeps of " + value, x.get(0, 0, 0, 5), due);
    }

    private static void linksAreToThingsOrNone() {
        long[] wrong = {-2, 4, 24, 255, Integer.MAX_VALUE, Integer.MIN_VALUE, Long.MAX_VALUE, Long.MIN_VALUE};
        for (long to : wrong) {
            Check.refused("link to " + to, Made.busy(), t -> t.set(0, 4, 0, to));
        }
        Run x = Made.busy();
        for (int to = -1; to <= 3; to++) {
            Check.yes("link to " + to, x.set(0, 4, 0, to));
            Check.same("the link", x.get(0, 0, 4, 0), to);
        }
        Run full = Made.full();
        Check.yes("link to the 24th", full.set(1, 0, 0, 23));
        Check.same("the link", full.get(0, 1, 0, 0), 23);
        Check.refused("link to a 25th", full, t -> t.set(1, 0, 0, 24));
    }

    /** A long whose lower half is a thing's number is none. */
    private static void linksAreNotCut() {
        long[] wrong = {1L << 32, (1L << 32) + 1, (1L << 32) - 1, -(1L << 32), 256, 65536, -256};
        for (long to : wrong) {
            Check.refused("link to " + to, Made.busy(), t -> t.set(0, 4, 0, to));
        }
    }

    private static void eachFieldHasItsOwnValue() {
        Run x = new Run();
        Made.bigShapes(x, 0);
        x.build(5);
        x.build(5);
        for (int k = 0; k < 48; k++) {
            Check.yes("set", x.set(k / 24, k / 4 % 6, k % 4, 1000 + k));
        }
        for (int k = 0; k < 48; k++) {
            Check.same("get", x.get(0, k / 24, k / 4 % 6, k % 4), 1000 + k);
        }
    }
}
