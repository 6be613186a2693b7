/** Promise 19: goes. */
public final class GoesTest {
    public static void main(String[] args) {
        sidesAre0And1();
        rowMustBeThere();
        linkMustBeThere();
        toThingsOrNone();
        ofTheLastThings();
        Check.done();
    }

    private static void sidesAre0And1() {
        for (int side : Made.WRONG_SIDES) {
            for (int k = 0; k < 4; k++) {
                int thing = k;
                Check.leaves("goes of side " + side, Made.busy(), -2, t -> t.goes(side, thing, 0));
            }
        }
    }

    private static void rowMustBeThere() {
        int[] wrong = {-1, 4, 5, 24, 40, Integer.MIN_VALUE, Integer.MAX_VALUE};
        for (int k = 0; k <= 1; k++) {
            int side = k;
            for (int thing : wrong) {
                Check.leaves("goes of thing " + thing, Made.busy(), -2, t -> t.goes(side, thing, 0));
            }
            Check.leaves("goes of a record", Made.busy(), -2, t -> t.goes(side, 0, 0));
            Check.leaves("goes of a record", Made.busy(), -2, t -> t.goes(side, side == 0 ? 2 : 1, 0));
        }
    }

    private static void linkMustBeThere() {
        int[] wrong = {-1, 3, 4, 5, Integer.MIN_VALUE, Integer.MAX_VALUE};
        for (int side = 0; side <= 1; side++) {
            int asked = side;
            int row = side == 0 ? 1 : 2;
            for (int k : wrong) {
                Check.leaves("link " + k + " of 3", Made.busy(), -2, t -> t.goes(asked, row, k));
            }
            Check.leaves("link 0 of 0", Made.busy(), -2, t -> t.goes(asked, 3, 0));
        }
        for (int length = 0; length <= 5; length++) {
            Run x = new Run();
            x.row(length);
            x.write(0);
            Check.reads("a row", x, "1 at -1");
            for (int k = 0; k < 2 * length; k++) {
                Check.same("link " + k / 2 + " of " + length, x.goes(k % 2, 0, k / 2), -1);
            }
            for (int side = 0; side <= 1; side++) {
                Check.same("link " + length + " of " + length, x.goes(side, 0, length), -2);
                Check.same("link -1 of " + length, x.goes(side, 0, -1), -2);
            }
        }
    }

    private static void toThingsOrNone() {
        for (int side = 0; side <= 1; side++) {
            int asked = side;
            int row = side == 0 ? 1 : 2;
            Check.leaves("to a record", Made.busy(), 0, t -> t.goes(asked, row, 0));
            Check.leaves("to none", Made.busy(), -1, t -> t.goes(asked, row, 1));
            Check.leaves("to a row", Made.busy(), 3, t -> t.goes(asked, row, 2));
        }
    }

    private static void ofTheLastThings() {
        Run full = Made.full();
        full.link(22, 0, 23);
        Check.same("the 23rd to the 24th", full.goes(0, 22, 0), 23);
        Run x = Run.of(Made.rows(40));
        Check.reads("40 rows", x, "40 at -1");
        Check.same("the 34th, of length 5, to the 40th", x.goes(1, 33, 4), 39);
        Check.same("the 34th has no more links", x.goes(1, 33, 5), -2);
        Check.same("the 41st", x.goes(1, 40, 0), -2);
    }
}
