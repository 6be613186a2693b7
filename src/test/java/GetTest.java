/** Promise 18: get. */
public final class GetTest {
    public static void main(String[] args) {
        sidesAre0And1();
        recordMustBeThere();
        shapeMustBeInTheChain();
        nameMustBeThere();
        numbersAndLinks();
        Check.done();
    }

    private static void sidesAre0And1() {
        for (int side : Made.WRONG_SIDES) {
            Check.leaves("get of side " + side, Made.busy(), 0, t -> t.get(side, 0, 4, 3));
            Check.leaves("get of a link of side " + side, Made.busy(), 0, t -> t.get(side, 0, 4, 0));
        }
    }

    private static void recordMustBeThere() {
        int[] wrong = {-1, 4, 5, 24, 40, Integer.MIN_VALUE, Integer.MAX_VALUE};
        for (int thing : wrong) {
            for (int k = 0; k <= 1; k++) {
                int side = k;
                Check.leaves("get of thing " + thing, Made.busy(), 0, t -> t.get(side, thing, 1, 3));
                Check.leaves("get of a link of thing " + thing, Made.busy(), 0, t -> t.get(side, thing, 1, 4));
            }
        }
        int[][] rows = {{1, 3}, {2, 3}};
        for (int k = 0; k < 4; k++) {
            int side = k / 2;
            int row = rows[side][k % 2];
            for (int shape = -1; shape <= 5; shape++) {
                int number = shape;
                Check.leaves("get of a row", Made.busy(), 0, t -> t.get(side, row, number, 0));
                Check.leaves("get of a row", Made.busy(), 0, t -> t.get(side, row, number, 3));
            }
        }
    }

    private static void shapeMustBeInTheChain() {
        for (int k = 0; k <= 1; k++) {
            int side = k;
            for (int shape : Made.WRONG_SHAPES) {
                Check.leaves("get in shape " + shape, Made.busy(), 0, t -> t.get(side, 0, shape, 3));
            }
            int[] others = {0, 2, 3, 5};
            for (int shape : others) {
                for (int name = 0; name <= 9; name++) {
                    Check.same("get in shape " + shape, Made.busy().get(side, 0, shape, name), 0);
                }
            }
            int last = side == 0 ? 2 : 1;
            Check.leaves("get in a shape below the record's", Made.busy(), 0, t -> t.get(side, last, 4, 0));
        }
    }

    private static void nameMustBeThere() {
        for (int k = 0; k <= 1; k++) {
            int side = k;
            for (int name : Made.WRONG_NAMES) {
                Check.leaves("get of name " + name, Made.busy(), 0, t -> t.get(side, 0, 4, name));
            }
            int[] others = {1, 2, 4, 5, 6, 7, 8};
            for (int name : others) {
                Check.same("get of name " + name, Made.busy().get(side, 0, 4, name), 0);
            }
        }
    }

    private static void numbersAndLinks() {
        for (int k = 0; k <= 1; k++) {
            int side = k;
            int last = side == 0 ? 2 : 1;
            Check.leaves("two bytes", Made.busy(), 300, t -> t.get(side, 0, 4, 3));
            Check.leaves("eight bytes", Made.busy(), -2, t -> t.get(side, 0, 4, 9));
            Check.leaves("a link to a row", Made.busy(), side == 0 ? 1 : 2, t -> t.get(side, 0, 4, 0));
            Check.leaves("four bytes of the parent", Made.busy(), 70000, t -> t.get(side, 0, 1, 3));
            Check.leaves("a link of the parent to a record", Made.busy(), last, t -> t.get(side, 0, 1, 4));
            Check.leaves("four bytes with sign", Made.busy(), -7, t -> t.get(side, last, 1, 3));
            Check.leaves("a link to none", Made.busy(), -1, t -> t.get(side, last, 1, 4));
        }
        Run x = new Run();
        x.shape(0, 0, -1, 0);
        x.shape(1, 0, -1, 0);
        x.field(0, 0, 0, 4);
        x.field(1, 0, 0, 4);
        x.build(0);
        x.set(0, 0, 0, 0);
        x.write(0);
        Check.reads("a record that holds itself", x, "1 at -1");
        Check.same("a link to the first thing", x.get(0, 0, 0, 0), 0);
        Check.same("a link to the first thing of side 1", x.get(1, 0, 0, 0), 0);
    }
}
