/** Promise 17: thing. */
public final class ThingTest {
    public static void main(String[] args) {
        sidesAre0And1();
        thingMustBeThere();
        whatIs0Or1();
        shapesAndLengths();
        ofTheLastThings();
        Check.done();
    }

    private static void sidesAre0And1() {
        for (int side : Made.WRONG_SIDES) {
            for (int k = 0; k <= 1; k++) {
                int what = k;
                Check.leaves("thing of side " + side, Made.busy(), -2, t -> t.thing(side, 0, what));
            }
        }
    }

    private static void thingMustBeThere() {
        int[] wrong = {-1, 4, 5, 24, 40, Integer.MIN_VALUE, Integer.MAX_VALUE};
        for (int thing : wrong) {
            for (int k = 0; k < 4; k++) {
                int side = k / 2;
                int what = k % 2;
                Check.leaves("thing " + thing, Made.busy(), -2, t -> t.thing(side, thing, what));
            }
        }
        Check.same("a thing of a new object", new Run().thing(0, 0, 0), -2);
        Check.same("a thing of a new object's side 1", new Run().thing(1, 0, 1), -2);
    }

    private static void whatIs0Or1() {
        int[] wrong = {-1, 2, 3, Integer.MIN_VALUE, Integer.MAX_VALUE};
        for (int what : wrong) {
            for (int k = 0; k < 4; k++) {
                int side = k / 2;
                int thing = k % 2;
                Check.leaves("what " + what, Made.busy(), -2, t -> t.thing(side, thing, what));
            }
        }
    }

    private static void shapesAndLengths() {
        int[][] due = {{4, -1, 1, -1}, {4, 1, -1, -1}};
        int[][] lengths = {{-1, 3, -1, 0}, {-1, -1, 3, 0}};
        for (int k = 0; k < 8; k++) {
            int side = k / 4;
            int thing = k % 4;
            Check.leaves("shape of " + thing, Made.busy(), due[side][thing], t -> t.thing(side, thing, 0));
            Check.leaves("length of " + thing, Made.busy(), lengths[side][thing], t -> t.thing(side, thing, 1));
        }
        for (int shape = 0; shape <= 5; shape++) {
            Run x = new Run();
            x.shape(0, shape, -1, 0);
            x.shape(1, shape, -1, 0);
            x.build(shape);
            x.write(0);
            Check.reads("a record", x, "1 at -1");
            Check.same("shape of side 0", x.thing(0, 0, 0), shape);
            Check.same("shape of side 1", x.thing(1, 0, 0), shape);
            Check.same("length of side 0", x.thing(0, 0, 1), -1);
            Check.same("length of side 1", x.thing(1, 0, 1), -1);
        }
        for (int length = 0; length <= 5; length++) {
            Run x = new Run();
            x.row(length);
            x.write(0);
            Check.reads("a row", x, "1 at -1");
            Check.same("shape of side 0", x.thing(0, 0, 0), -1);
            Check.same("shape of side 1", x.thing(1, 0, 0), -1);
            Check.same("length of side 0", x.thing(0, 0, 1), length);
            Check.same("length of side 1", x.thing(1, 0, 1), length);
        }
    }

    private static void ofTheLastThings() {
        Run full = Made.full();
        Check.same("the 24th", full.thing(0, 23, 0), 0);
        Check.same("the 25th", full.thing(0, 24, 0), -2);
        Run x = Run.of(Made.rows(40));
        Check.reads("40 rows", x, "40 at -1");
        Check.same("the 40th", x.thing(1, 39, 0), -1);
        Check.same("the 40th's length", x.thing(1, 39, 1), 0);
        Check.same("the 41st", x.thing(1, 40, 0), -2);
    }
}
