/** Promise 5: row. */
public final class RowTest {
    public static void main(String[] args) {
        lengthsAre0To5();
        allIsNone();
        thereAreAtMost24Things();
        numbersRiseFrom0();
        Check.done();
    }

    private static void lengthsAre0To5() {
        int[] wrong = {-1, 6, Integer.MIN_VALUE, Integer.MAX_VALUE};
        for (int length : wrong) {
            Check.leaves("row of " + length, Made.busy(), -1, t -> t.row(length));
        }
        for (int length = 0; length <= 5; length++) {
            Run x = new Run();
            Check.same("row of " + length, x.row(length), 0);
            Check.same("its length", x.thing(0, 0, 1), length);
            Check.same("its shape", x.thing(0, 0, 0), -1);
        }
    }

    private static void allIsNone() {
        for (int length = 0; length <= 5; length++) {
            Run x = new Run();
            x.row(length);
            for (int k = 0; k < length; k++) {
                Check.same("link " + k + " of " + length, x.goes(0, 0, k), -1);
                x.link(0, k, 0);
            }
            Check.same("the link behind the last one", x.goes(0, 0, length), -2);
            x.clear();
            x.row(5);
            for (int k = 0; k < 5; k++) {
                Check.same("link " + k + " of a row behind clear", x.goes(0, 0, k), -1);
            }
        }
    }

    private static void thereAreAtMost24Things() {
        Run x = new Run();
        for (int k = 0; k < 23; k++) {
            x.row(5);
        }
        Check.same("things", x.things(0), 23);
        Check.same("the 24th", x.row(5), 23);
        Check.same("things", x.things(0), 24);
        x.link(0, 0, 23);
        x.link(23, 4, 0);
        Check.leaves("the 25th", x, -1, t -> t.row(0));
        Check.leaves("the 25th of no length", x, -1, t -> t.row(6));
        Check.leaves("the 25th among records", Made.full(), -1, t -> t.row(5));
        x.clear();
        Check.same("the first one behind clear", x.row(5), 0);
    }

    private static void numbersRiseFrom0() {
        Run x = Made.cleared();
        Check.same("first", x.row(2), 0);
        Check.same("refused", x.row(6), -1);
        Check.same("second, a record", x.build(1), 1);
        Check.same("third", x.row(0), 2);
        Check.same("length of the first", x.thing(0, 0, 1), 2);
        Check.same("length of the third", x.thing(0, 2, 1), 0);
        Check.same("things", x.things(0), 3);
        Check.same("side 1's things", x.things(1), 4);
    }
}
