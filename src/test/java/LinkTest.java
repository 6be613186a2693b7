/** Promise 7: link. */
public final class LinkTest {
    public static void main(String[] args) {
        rowMustBeThere();
        linkMustBeThere();
        goesToThingsOrNone();
        eachLinkIsItsOwn();
        Check.done();
    }

    private static void rowMustBeThere() {
        int[] wrong = {-1, 4, 24, Integer.MIN_VALUE, Integer.MAX_VALUE};
        for (int thing : wrong) {
            Check.refused("link of thing " + thing, Made.busy(), t -> t.link(thing, 0, 0));
        }
        Check.refused("link of a record", Made.busy(), t -> t.link(0, 0, 0));
        Check.refused("link of a record to none", Made.busy(), t -> t.link(2, 0, -1));
        Check.yes("link of a row", Made.busy().link(1, 0, 3));
        Run x = Made.busy();
        Check.yes("link of the last one", x.link(x.row(1), 0, 0));
        x.clear();
        Check.refused("link of a row that is gone", x, t -> t.link(1, 0, -1));
    }

    private static void linkMustBeThere() {
        int[] wrong = {-1, 3, 5, Integer.MIN_VALUE, Integer.MAX_VALUE};
        for (int k : wrong) {
            Check.refused("link " + k + " of 3", Made.busy(), t -> t.link(1, k, 2));
        }
        Check.refused("link 0 of 0", Made.busy(), t -> t.link(3, 0, 2));
        for (int length = 0; length <= 5; length++) {
            Run x = new Run();
            x.row(length);
            int behind = length;
            for (int k = 0; k < length; k++) {
                Check.yes("link " + k + " of " + length, x.link(0, k, 0));
            }
            Check.refused("link " + length + " of " + length, x, t -> t.link(0, behind, 0));
            Check.refused("link -1 of " + length, x, t -> t.link(0, -1, 0));
        }
    }

    private static void goesToThingsOrNone() {
        int[] wrong = {-2, 4, 24, Integer.MIN_VALUE, Integer.MAX_VALUE};
        for (int to : wrong) {
            Check.refused("link to " + to, Made.busy(), t -> t.link(1, 0, to));
        }
        Run x = Made.busy();
        for (int to = -1; to <= 3; to++) {
            Check.yes("link to " + to, x.link(1, 1, to));
            Check.same("where it goes", x.goes(0, 1, 1), to);
        }
        Run full = Made.full();
        Check.yes("link to the 24th", full.link(0, 0, 23));
        Check.same("where it goes", full.goes(0, 0, 0), 23);
        Check.refused("link to a 25th", full, t -> t.link(0, 0, 24));
    }

    private static void eachLinkIsItsOwn() {
        Run x = new Run();
        x.row(5);
        x.row(5);
        for (int k = 0; k < 10; k++) {
            x.row(0);
            x.link(k / 5, k % 5, k + 2);
        }
        for (int k = 0; k < 10; k++) {
            Check.same("goes", x.goes(0, k / 5, k % 5), k + 2);
        }
    }
}
