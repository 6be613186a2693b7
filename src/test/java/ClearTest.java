/** Promise 9: clear. */
public final class ClearTest {
    public static void main(String[] args) {
        takesTheThingsOfSide0();
        leavesAllElse();
        doesNothingWithoutThings();
        numbersBeginWith0Again();
        Check.done();
    }

    private static void takesTheThingsOfSide0() {
        Run x = Made.busy();
        x.clear();
        Check.same("things", x.things(0), 0);
        for (int thing = 0; thing <= 4; thing++) {
            int gone = thing;
            Check.same("thing " + thing, x.thing(0, thing, 0), -2);
            Check.same("length of " + thing, x.thing(0, thing, 1), -2);
            Check.same("field of " + thing, x.get(0, thing, 4, 3), 0);
            Check.same("link of " + thing, x.goes(0, thing, 0), -2);
            Check.leaves("write of " + thing, x, -1, t -> t.write(gone));
        }
        x.row(1);
        Check.refused("link to a thing that is gone", x, t -> t.link(0, 0, 1));
    }

    private static void leavesAllElse() {
        Run x = Made.busy();
        String before = State.of(x);
        x.clear();
        String gone = State.things(Made.busy(), 0);
        Check.yes("things were there", before.startsWith(gone));
        Check.same("all else", State.of(x), "things of side 0:\n" + before.substring(gone.length()));
    }

    private static void doesNothingWithoutThings() {
        Check.leaves("clear without things", Made.cleared(), 0, t -> {
            t.clear();
            return 0;
        });
        Check.leaves("clear of a new object", new Run(), 0, t -> {
            t.clear();
            return 0;
        });
    }

    private static void numbersBeginWith0Again() {
        Run x = Made.full();
        x.clear();
        for (int k = 0; k < 24; k++) {
            Check.same("thing behind clear", x.build(0), k);
        }
        Check.same("the 25th", x.build(0), -1);
        x.clear();
        Check.same("a row behind clear", x.row(3), 0);
        Check.same("its length", x.thing(0, 0, 1), 3);
    }
}
