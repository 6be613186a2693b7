/** Promises 13, 14 and 15: what reading filters, and where. */
public final class FilteredTest {
    public static void main(String[] args) {
        bytesBeyondTheLimit();
        bytesBeforeAll();
        limitOf0Bytes();
        limitOf1000Bytes();
        lengthsBeyondTheLimit();
        thingsBeyondTheLimit();
        recordsAndRowsAreThings();
        handlesAndNoneAreNoThings();
        depthBeyondTheLimit();
        depthOfRecords();
        depthOfRecordsAlone();
        depthIsOfTheFirstPlace();
        depthBeforeTheLength();
        thingsBeforeTheLength();
        lengthBehindIt();
        beforeTheDescription();
        whatShowsNowhereIsFiltered();
        Check.done();
    }

    private static void bytesBeyondTheLimit() {
        for (int length = 0; length <= 5; length++) {
            int[] bytes = Made.rowOf(length);
            Run x = Made.shaped(bytes);
            x.limit(0, bytes.length - 1);
            Check.throwsAndLeaves("one byte more than the limit", x, "filtered at 0");
            x.limit(0, bytes.length);
            Check.reads("as many bytes as the limit", x, "1 at -1");
            x.limit(0, bytes.length + 1);
            Check.reads("one byte less than the limit", x, "1 at -1");
        }
    }

    private static void bytesBeforeAll() {
        int[][] all = {{1, 237, 112}, {172, 237, 1}, {172, 237, 112, 1}, {172, 237, 115, 114, 3, 0, 0, 0, 8, 0, 112},
            {172, 237, 115, 112}, {172, 237, 117, 6}};
        for (int[] bytes : all) {
            Run x = Made.shaped(bytes);
            x.limit(0, bytes.length - 1);
            Check.throwsAndLeaves("one byte more than the limit, and a fault", x, "filtered at 0");
            x.limit(2, 0);
            x.limit(3, 0);
            Check.throwsAndLeaves("one byte more than the limit, and other limits", x, "filtered at 0");
        }
    }

    private static void limitOf0Bytes() {
        Run x = Made.shaped();
        x.limit(0, 0);
        Check.throwsAndLeaves("nothing", x, "wrong at 0");
        x.append(172);
        Check.throwsAndLeaves("one byte", x, "filtered at 0");
        x.limit(0, 1);
        Check.throwsAndLeaves("one byte of one", x, "wrong at 1");
    }

    private static void limitOf1000Bytes() {
        Run x = new Run();
        Made.bigShapes(x, 1);
        Made.for999Bytes(x);
        x.write(0);
        x.limit(0, 999);
        Check.reads("999 bytes of 999", x, "10 at -1");
        x.limit(0, 998);
        Check.throwsAndLeaves("999 bytes of 998", x, "filtered at 0");
        x.link(5, 4, x.row(0));
        x.write(0);
        x.limit(0, 1000);
        Check.reads("1000 bytes of 1000", x, "11 at -1");
        x.limit(0, 999);
        Check.throwsAndLeaves("1000 bytes of 999", x, "filtered at 0");
    }

    private static void lengthsBeyondTheLimit() {
        for (int limit = 0; limit <= 5; limit++) {
            for (int length = 0; length <= 6; length++) {
                Run x = Made.shaped(Made.rowOf(length));
                x.limit(1, limit);
                String what = "length " + length + " of " + limit;
                if (length <= limit) {
                    Check.reads(what, x, "1 at -1");
                } else {
                    Check.throwsAndLeaves(what, x, length == 6 ? "wrong at 3" : "filtered at 3");
                }
            }
        }
        Run x = Made.shaped(172, 237, 117, 2, 117, 3, 112, 112, 112, 112);
        x.limit(1, 2);
        Check.throwsAndLeaves("length 3 of 2 in a row", x, "filtered at 5");
    }

    private static void thingsBeyondTheLimit() {
        for (int limit = 0; limit <= 40; limit++) {
            Run x = new Run();
            x.limit(2, limit);
            if (limit > 1) {
                x.fill(Made.rows(limit - 1));
                Check.reads("one thing less than the limit " + limit, x, limit - 1 + " at -1");
            }
            if (limit > 0) {
                x.fill(Made.rows(limit));
                Check.reads("as many things as the limit " + limit, x, limit + " at -1");
            }
            x.fill(Made.rows(limit + 1));
            Check.reads("one thing more than the limit " + limit, x, "filtered at " + (2 + 2 * limit));
            Check.same("things behind it", x.things(1), limit);
            x.fill(Made.rows(limit + 2));
            Check.reads("two things more than the limit " + limit, x, "filtered at " + (2 + 2 * limit));
        }
    }

    private static void recordsAndRowsAreThings() {
        Run x = Made.shaped(172, 237, 117, 3, 117, 0, 113, 0, 0, 115, 114, 3, 0, 0, 0, 9, 1, 1, 4, 112, 117, 0);
        x.limit(2, 4);
        Check.reads("four of four", x.copy(), "4 at -1");
        x.limit(2, 3);
        Check.throwsAndLeaves("a row in a record, the fourth of three", x, "filtered at 20");
        x.limit(2, 2);
        Check.throwsAndLeaves("a record, the third of two", x, "filtered at 9");
        x.limit(2, 1);
        Check.throwsAndLeaves("a row, the second of one", x, "filtered at 4");
        x.limit(2, 0);
        Check.throwsAndLeaves("a row, the first of none", x, "filtered at 2");
        x.fill(172, 237, 115);
        Check.throwsAndLeaves("a record, the first of none", x, "filtered at 2");
    }

    private static void handlesAndNoneAreNoThings() {
        Run x = Made.shaped(172, 237, 117, 5, 113, 0, 0, 112, 113, 0, 0, 112, 112);
        x.limit(2, 1);
        x.limit(3, 1);
        Check.reads("handles and none", x, "1 at -1");
        x.limit(2, 0);
        x.limit(3, 0);
        x.fill(172, 237, 112);
        Check.reads("none", x, "0 at -1");
        x.fill(172, 237, 113, 0, 0);
        Check.reads("a handle", x, "wrong at 3");
    }

    private static void depthBeyondTheLimit() {
        for (int limit = 0; limit <= 10; limit++) {
            Run x = new Run();
            x.limit(3, limit);
            if (limit > 0) {
                x.fill(Made.deepRows(limit));
                Check.reads("as deep as the limit " + limit, x, limit + " at -1");
            }
            x.fill(Made.deepRows(limit + 1));
            Check.throwsAndLeaves("one deeper than the limit " + limit, x, "filtered at " + (2 + 2 * limit));
            x.fill(Made.deepRows(limit + 2));
            Check.reads("two deeper than the limit " + limit, x, "filtered at " + (2 + 2 * limit));
        }
    }

    private static void depthOfRecords() {
        Run x = Made.shaped(172, 237, 117, 2, 117, 0, 115, 114, 3, 0, 0, 0, 9, 1, 1, 4, 112, 115, 113, 0, 2, 117, 1, 113, 0, 0);
        x.limit(3, 4);
        Check.reads("four deep of four", x.copy(), "5 at -1");
        x.limit(3, 3);
        Check.throwsAndLeaves("a row in a record, four deep of three", x, "filtered at 21");
        x.limit(3, 2);
        Check.throwsAndLeaves("a record in a record, three deep of two", x, "filtered at 17");
        x.limit(3, 1);
        Check.throwsAndLeaves("a row in a row, two deep of one", x, "filtered at 4");
        x.put(4, 112);
        x.put(5, 115);
        x.put(6, 1);
        Check.throwsAndLeaves("a record in a row, two deep of one", x, "filtered at 5");
        x.limit(3, 0);
        Check.throwsAndLeaves("one deep of none", x, "filtered at 2");
    }

    private static void depthOfRecordsAlone() {
        for (int depth = 9; depth <= 11; depth++) {
            Run x = Made.shaped(172, 237, 115, 114, 3, 0, 0, 0, 9, 1, 1, 4, 112);
            for (int k = 1; k < depth; k++) {
                int[] next = {115, 113, 0, 0};
                for (int b : next) {
                    x.append(b);
                }
            }
            x.append(112);
            Check.reads("records " + depth + " deep", x, depth <= 10 ? depth + " at -1" : "filtered at 49");
        }
    }

    /** What is linked to again, from deeper, is no deeper than where it stands; what stands beside is not deeper, too. */
    private static void depthIsOfTheFirstPlace() {
        Run x = Made.shaped(172, 237, 117, 3, 117, 1, 113, 0, 0, 117, 2, 113, 0, 1, 113, 0, 2, 117, 0);
        x.limit(3, 2);
        Check.reads("handles from two deep", x, "4 at -1");
        Check.same("the first one's", x.goes(1, 1, 0), 0);
        Check.same("the second one's", x.goes(1, 2, 0), 1);
    }

    private static void depthBeforeTheLength() {
        int[][] all = {{172, 237, 117, 1, 117, 9}, {172, 237, 117, 1, 117}, {172, 237, 117, 1, 117, 5}};
        for (int[] bytes : all) {
            Run x = Made.shaped(bytes);
            x.limit(1, 1);
            x.limit(3, 1);
            Check.throwsAndLeaves("too deep, and a length that is not right", x, "filtered at 4");
        }
    }

    private static void thingsBeforeTheLength() {
        int[][] all = {{172, 237, 117, 1, 117, 9}, {172, 237, 117, 1, 117}, {172, 237, 117, 1, 117, 5}};
        for (int[] bytes : all) {
            Run x = Made.shaped(bytes);
            x.limit(1, 1);
            x.limit(2, 1);
            Check.throwsAndLeaves("too many, and a length that is not right", x, "filtered at 4");
        }
    }

    private static void lengthBehindIt() {
        Run x = Made.shaped(172, 237, 117);
        x.limit(1, 4);
        Check.throwsAndLeaves("no length", x, "wrong at 3");
        x.append(5);
        Check.throwsAndLeaves("a length, and no links", x, "filtered at 3");
        x.put(3, 4);
        Check.throwsAndLeaves("a length of four, and no links", x, "wrong at 4");
    }

    private static void beforeTheDescription() {
        int[][] all = {{172, 237, 115}, {172, 237, 115, 112}, {172, 237, 115, 114, 9}, {172, 237, 115, 113, 0, 0},
            {172, 237, 115, 114, 3, 0, 0, 0, 8, 0, 112}};
        for (int[] bytes : all) {
            for (int what = 2; what <= 3; what++) {
                Run x = Made.shaped(bytes);
                x.limit(what, 0);
                Check.throwsAndLeaves("a record, and a description that is not right", x, "filtered at 2");
            }
        }
    }

    /** Name 7 is not on side 1: what it links to is read all the same. */
    private static void whatShowsNowhereIsFiltered() {
        Run x = Made.shaped(172, 237, 115, 114, 3, 0, 0, 0, 9, 1, 7, 4, 112, 117, 1, 112);
        Check.reads("a row that shows nowhere", x.copy(), "2 at -1");
        x.limit(2, 1);
        Check.throwsAndLeaves("two things of one", x, "filtered at 13");
        x.limit(2, 40);
        x.limit(3, 1);
        Check.throwsAndLeaves("two deep of one", x, "filtered at 13");
        x.limit(3, 10);
        x.limit(1, 0);
        Check.throwsAndLeaves("a length of one of none", x, "filtered at 14");
    }
}
