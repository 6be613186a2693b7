/** Promise 16: things. */
public final class ThingsTest {
    public static void main(String[] args) {
        sidesAre0And1();
        ofSide0();
        ofSide1();
        Check.done();
    }

    private static void sidesAre0And1() {
        for (int side : Made.WRONG_SIDES) {
            Check.leaves("things of side " + side, Made.busy(), -1, t -> t.things(side));
            Check.same("things of a new object's side " + side, new Run().things(side), -1);
        }
        Check.leaves("things of side 0", Made.busy(), 4, t -> t.things(0));
        Check.leaves("things of side 1", Made.cleared(), 4, t -> t.things(1));
    }

    private static void ofSide0() {
        Run x = new Run();
        Check.same("none", x.things(0), 0);
        for (int k = 1; k <= 24; k++) {
            x.row(0);
            Check.same("rows", x.things(0), k);
        }
        x.row(0);
        Check.same("rows, and one refused", x.things(0), 24);
        x.clear();
        Check.same("cleared", x.things(0), 0);
    }

    private static void ofSide1() {
        Run x = Run.of(Made.rows(40));
        Check.same("before the read", x.things(1), 0);
        Check.reads("40 rows", x, "40 at -1");
        Check.same("40", x.things(1), 40);
        Check.same("side 0", x.things(0), 0);
        x.fill(172, 237, 117, 0);
        Check.same("before the next read", x.things(1), 40);
        Check.reads("a row", x, "1 at -1");
        Check.same("1", x.things(1), 1);
        x.fill(172, 237, 112);
        Check.reads("none", x, "0 at -1");
        Check.same("0", x.things(1), 0);
    }
}
