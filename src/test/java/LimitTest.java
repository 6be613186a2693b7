/** Promise 13: limit. What the limits do is in FilteredTest. */
public final class LimitTest {
    private static final int[] MOST = {1000, 5, 40, 10};

    public static void main(String[] args) {
        whatIs0To3();
        limitsAre0ToTheHighest();
        refusedLimitsLeaveTheLowest();
        eachLimitIsItsOwn();
        changesNothingElse();
        staysBehindOtherCalls();
        Check.done();
    }

    private static void whatIs0To3() {
        int[] wrong = {-1, 4, 5, Integer.MIN_VALUE, Integer.MAX_VALUE};
        for (int what : wrong) {
            for (int k = 0; k <= 1; k++) {
                int limit = k;
                Check.refused("limit of what " + what, Made.busy(), t -> t.limit(what, limit));
            }
        }
        for (int what = 0; what <= 3; what++) {
            Check.yes("limit of what " + what, Made.busy().limit(what, 1));
        }
    }

    private static void limitsAre0ToTheHighest() {
        for (int k = 0; k <= 3; k++) {
            int what = k;
            int[] wrong = {-1, -2, MOST[what] + 1, MOST[what] + 2, 1001, Integer.MIN_VALUE, Integer.MAX_VALUE};
            for (int limit : wrong) {
                Check.refused("limit " + limit + " of what " + what, Made.busy(), t -> t.limit(what, limit));
                Check.refused("limit " + limit + " of a new object's " + what, new Run(), t -> t.limit(what, limit));
            }
            int[] right = {0, 1, MOST[what] - 1, MOST[what]};
            for (int limit : right) {
                Run x = Made.busy();
                Check.yes("limit " + limit + " of what " + what, x.limit(what, limit));
                Check.leaves("the same again", x, 1, t -> t.limit(what, limit) ? 1 : 0);
            }
        }
    }

    private static void refusedLimitsLeaveTheLowest() {
        for (int k = 0; k <= 3; k++) {
            int what = k;
            Run x = Made.busy();
            x.limit(what, 0);
            Check.refused("one above", x, t -> t.limit(what, MOST[what] + 1));
            Check.refused("one below", x, t -> t.limit(what, -1));
        }
    }

    private static void eachLimitIsItsOwn() {
        String[] at0 = {"bytes 0, lengths 5 at -1, things filtered at 82, depth filtered at 22",
            "bytes 1000, lengths filtered at 3, things filtered at 82, depth filtered at 22",
            "bytes 1000, lengths 5 at -1, things filtered at 2, depth filtered at 22",
            "bytes 1000, lengths 5 at -1, things filtered at 82, depth filtered at 2"};
        for (int what = 0; what <= 3; what++) {
            Run x = new Run();
            x.limit(what, 0);
            Check.same("limits", State.limits(x), "limits: " + at0[what] + "\n");
        }
        Run x = new Run();
        x.limit(0, 999);
        x.limit(1, 4);
        x.limit(2, 39);
        x.limit(3, 9);
        Check.same("limits", State.limits(x), "limits: bytes 999, lengths filtered at 11, things filtered at 80, depth filtered at 20\n");
    }

    private static void changesNothingElse() {
        Run x = Made.busy();
        String before = State.of(x).replace(State.limits(x), "");
        for (int what = 0; what <= 3; what++) {
            x.limit(what, 2);
        }
        Check.same("all but the limits", State.of(x).replace(State.limits(x), ""), before);
    }

    private static void staysBehindOtherCalls() {
        Run x = Made.busy();
        String before = State.limits(x);
        x.write(0);
        Check.reads("what was written", x, "4 at -1");
        x.clear();
        x.shape(1, 0, -1, 0);
        x.cut(0);
        Check.reads("nothing", x, "wrong at 0");
        Check.same("limits", State.limits(x), before);
    }
}
