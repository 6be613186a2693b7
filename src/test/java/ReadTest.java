/** Promises 1 (limits), 13 (limit), 14 (read), 15 (position), and what 16 to 19 answer of side 1. */
public final class ReadTest {
    public static void main(String[] args) {
        positionIsNoneAtFirst();
        limitChecksItsArguments();
        bytesThatAreMissing();
        bytesThatTellWhatComes();
        handlesOfThings();
        handlesOfDescriptions();
        numbersOfShapes();
        fieldsOfDescriptions();
        fieldsInOrder();
        lengthsOfRows();
        marksAndKindsThatAreStrange();
        parentsAreStrangeFirst();
        wrongParentComesBeforeStrange();
        recordsWithoutShape();
        limitOfBytes();
        limitOfThings();
        limitOfDepth();
        orderOfTheFilter();
        defaultLimits();
        numbersWithSign();
        otherShapesOnSide1();
        hiddenLinksCount();
        whatThrowsLeavesThings();
        positionOfTheLatestRead();
        handlesBeginAnew();
        manyDescriptions();
        Check.done();
    }

    private static ThingStream filled(int... bytes) {
        ThingStream x = new ThingStream();
        Check.fill(x, bytes);
        return x;
    }

    /** Side 1 has shape 3 (mark 9: name 2 of one byte, name 1 a link) and its parent 0 (mark 0, no fields). */
    private static ThingStream shaped(int... bytes) {
        ThingStream x = filled(bytes);
        x.shape(1, 0, -1, 0);
        x.shape(1, 3, 0, 9);
        x.field(1, 3, 2, 0);
        x.field(1, 3, 1, 4);
        return x;
    }

    private static void positionIsNoneAtFirst() {
        Check.same("position", new ThingStream().position(), -1);
    }

    private static void limitChecksItsArguments() {
        ThingStream x = new ThingStream();
        int[] most = {1000, 5, 40, 10};
        for (int what = 0; what < 4; what++) {
            Check.yes("limit 0", x.limit(what, 0));
            Check.yes("highest limit of " + what, x.limit(what, most[what]));
            Check.no("limit above", x.limit(what, most[what] + 1));
            Check.no("limit -1", x.limit(what, -1));
            Check.no("limit far above", x.limit(what, Integer.MAX_VALUE));
            Check.no("limit far below", x.limit(what, Integer.MIN_VALUE));
        }
        int[] wrong = {-1, 4, Integer.MIN_VALUE, Integer.MAX_VALUE};
        for (int what : wrong) {
            Check.no("what " + what, x.limit(what, 1));
        }
        Check.fill(x, 172, 237, 117, 0);
        x.limit(2, 1);
        x.limit(2, 41);
        x.limit(2, -1);
        Check.reads("a limit that was refused changes nothing", x, "1 at -1");
    }

    private static void bytesThatAreMissing() {
        int[] whole = {172, 237, 115, 114, 3, 0, 0, 0, 9, 2, 2, 0, 1, 4, 112, 7, 113, 0, 1};
        for (int n = 0; n < whole.length; n++) {
            ThingStream x = shaped(whole);
            x.cut(n);
            Check.reads("the first " + n, x, "wrong at " + n);
        }
        Check.reads("all", shaped(whole), "1 at -1");
        int[] rows = {172, 237, 117, 2, 117, 1, 113, 0, 1, 112};
        for (int n = 0; n < rows.length; n++) {
            ThingStream x = filled(rows);
            x.cut(n);
            Check.reads("the first " + n, x, "wrong at " + n);
        }
        ThingStream more = filled(rows);
        more.put(10, 172);
        more.put(11, 1);
        Check.reads("two too many", more, "wrong at 10");
    }

    private static void bytesThatTellWhatComes() {
        for (int b = 0; b < 256; b++) {
            String first = b == 172 ? "0 at -1" : "wrong at 0";
            Check.reads("first byte " + b, filled(b, 237, 112), first);
            String second = b == 237 ? "0 at -1" : "wrong at 1";
            Check.reads("second byte " + b, filled(172, b, 112), second);
            if (b < 112 || b > 117 || b == 114 || b == 116) {
                Check.reads("value " + b, filled(172, 237, b, 0, 0, 0, 0), "wrong at 2");
                Check.reads("value in a row " + b, filled(172, 237, 117, 1, b, 0, 0), "wrong at 4");
            }
            if (b < 113 || b > 114) {
                Check.reads("description " + b, shaped(172, 237, 115, b, 0, 0, 0, 0), "wrong at 3");
            }
            if (b < 112 || b > 114) {
                Check.reads("parent " + b, shaped(172, 237, 115, 114, 3, 0, 0, 0, 9, 0, b, 0), "wrong at 10");
            }
        }
    }

    private static void handlesOfThings() {
        Check.reads("no handle yet", filled(172, 237, 113, 0, 0), "wrong at 3");
        Check.reads("the row itself", filled(172, 237, 117, 1, 113, 0, 0), "1 at -1");
        Check.reads("one too high", filled(172, 237, 117, 1, 113, 0, 1), "wrong at 5");
        Check.reads("the higher byte first", filled(172, 237, 117, 1, 113, 1, 0), "wrong at 5");
        Check.reads("the highest one", filled(172, 237, 117, 1, 113, 255, 255), "wrong at 5");
        Check.reads("a later one", filled(172, 237, 117, 2, 113, 0, 1, 117, 0), "wrong at 5");
        Check.reads("of a description", shaped(172, 237, 115, 114, 3, 0, 0, 0, 9, 1, 1, 4, 112, 113, 0, 0), "wrong at 14");
        Check.reads("of the record", shaped(172, 237, 115, 114, 3, 0, 0, 0, 9, 1, 1, 4, 112, 113, 0, 1), "1 at -1");
    }

    private static void handlesOfDescriptions() {
        Check.reads("no handle yet", shaped(172, 237, 115, 113, 0, 0), "wrong at 4");
        Check.reads("of the first description", shaped(172, 237, 115, 114, 3, 0, 0, 0, 9, 1, 1, 4, 112, 115, 113, 0, 0, 112),
            "2 at -1");
        int[] two = {172, 237, 117, 2, 115, 114, 3, 0, 0, 0, 9, 0, 112, 115, 113, 0, 1};
        Check.reads("of a description", shaped(two), "3 at -1");
        two[16] = 0;
        Check.reads("of a row", shaped(two), "wrong at 15");
        two[16] = 2;
        Check.reads("of a record", shaped(two), "wrong at 15");
        two[16] = 3;
        Check.reads("of none", shaped(two), "wrong at 15");
        int[] parent = {172, 237, 117, 2, 115, 114, 0, 0, 0, 0, 0, 0, 112, 115, 114, 3, 0, 0, 0, 9, 0, 113, 0, 1};
        Check.reads("a parent by handle", shaped(parent), "3 at -1");
        parent[23] = 3;
        Check.reads("itself as a parent", shaped(parent), "wrong at 22");
        parent[23] = 2;
        Check.reads("a record as a parent", shaped(parent), "wrong at 22");
        int[] same = {172, 237, 117, 2, 115, 114, 3, 0, 0, 0, 9, 0, 112, 115, 114, 3, 0, 0, 0, 9, 0, 113, 0, 1};
        Check.reads("one of the same number as a parent", shaped(same), "wrong at 22");
        same[15] = 2;
        Check.reads("one of a higher number as a parent", shaped(same), "wrong at 22");
        same[15] = 4;
        Check.reads("one of a lower number as a parent", shaped(same), "strange at 14");
    }

    private static void numbersOfShapes() {
        for (int number = 0; number < 256; number++) {
            String own = number > 5 ? "wrong at 4" : number == 3 ? "1 at -1" : "strange at 3";
            ThingStream x = shaped(172, 237, 115, 114, number, 0, 0, 0, 9, 0, 112);
            Check.reads("number " + number, x, own);
            String parent = number >= 3 ? "wrong at 11" : number == 0 ? "strange at 10" : "1 at -1";
            x = shaped(172, 237, 115, 114, 3, 0, 0, 0, 9, 0, 114, number, 0, 0, 0, 1, 0, 112);
            Check.reads("parent " + number, x, parent);
        }
    }

    private static void fieldsOfDescriptions() {
        for (int b = 0; b < 256; b++) {
            if (b > 4) {
                Check.reads(b + " fields", shaped(172, 237, 115, 114, 3, 0, 0, 0, 9, b), "wrong at 9");
                Check.reads("kind " + b, shaped(172, 237, 115, 114, 3, 0, 0, 0, 9, 1, 7, b, 112), "wrong at 11");
            }
            if (b > 9) {
                Check.reads("name " + b, shaped(172, 237, 115, 114, 3, 0, 0, 0, 9, 1, b), "wrong at 10");
            }
        }
        Check.reads("four fields", shaped(172, 237, 115, 114, 3, 0, 0, 0, 9, 4, 0, 0, 9, 1, 1, 4, 8, 4, 112, 1, 0, 1, 112, 112),
            "1 at -1");
    }

    private static void fieldsInOrder() {
        for (int first = 0; first < 10; first++) {
            for (int second = 0; second < 10; second++) {
                for (int kinds = 0; kinds < 25; kinds++) {
                    int a = kinds / 5;
                    int b = kinds % 5;
                    boolean right = first != second && (a == 4) == (b == 4) ? first < second : first != second && b == 4;
                    ThingStream x = filled(172, 237, 115, 114, 3, 0, 0, 0, 9, 2, first, a, second, b, 112);
                    Check.reads("fields " + first + " " + a + " " + second + " " + b, x, right ? "strange at 3" : "wrong at 13");
                }
            }
        }
        Check.reads("a name of the first field", filled(172, 237, 115, 114, 3, 0, 0, 0, 9, 3, 1, 0, 2, 0, 1, 4, 112), "wrong at 15");
        Check.reads("a link, then a number", filled(172, 237, 115, 114, 3, 0, 0, 0, 9, 3, 1, 0, 2, 4, 3, 3, 112), "wrong at 15");
    }

    private static void lengthsOfRows() {
        for (int b = 0; b < 256; b++) {
            ThingStream x = filled(172, 237, 117, b, 112, 112, 112, 112, 112);
            x.cut(4 + Math.min(b, 5));
            Check.reads("length " + b, x, b > 5 ? "wrong at 3" : "1 at -1");
            x.limit(1, 2);
            Check.reads("length " + b + " of 2", x, b > 5 ? "wrong at 3" : b > 2 ? "filtered at 3" : "1 at -1");
            x.limit(1, 0);
            Check.reads("length " + b + " of 0", x, b > 5 ? "wrong at 3" : b > 0 ? "filtered at 3" : "1 at -1");
        }
        ThingStream x = filled(172, 237, 117, 1, 117, 0);
        Check.reads("a row in a row", x, "2 at -1");
        Check.same("length", x.thing(1, 1, 1), 0);
        Check.same("shape", x.thing(1, 1, 0), -1);
        Check.same("goes", x.goes(1, 0, 0), 1);
    }

    private static void marksAndKindsThatAreStrange() {
        for (int k = 5; k <= 8; k++) {
            ThingStream x = shaped(172, 237, 115, 114, 3, 0, 0, 0, 9, 0, 112);
            x.put(k, x.at(k) ^ 128);
            Check.reads("another mark at " + k, x, "strange at 3");
        }
        for (int kind = 0; kind < 5; kind++) {
            ThingStream x = shaped(172, 237, 115, 114, 3, 0, 0, 0, 9, 1, 2, kind, 112, 1);
            Check.reads("name 2 with kind " + kind, x, kind == 0 ? "1 at -1" : "strange at 3");
            x = shaped(172, 237, 115, 114, 3, 0, 0, 0, 9, 1, 1, kind, 112, 112);
            Check.reads("name 1 with kind " + kind, x, kind == 4 ? "1 at -1" : "strange at 3");
        }
        ThingStream x = shaped(172, 237, 115, 114, 3, 0, 0, 0, 9, 1, 7, 4, 112, 112);
        Check.reads("a name that side 1 has not", x, "1 at -1");
        x = filled(172, 237, 115, 114, 3, 255, 255, 255, 254, 0, 112);
        x.shape(1, 3, -1, -2);
        Check.reads("a mark with sign", x, "1 at -1");
    }

    private static void parentsAreStrangeFirst() {
        ThingStream x = shaped(172, 237, 115, 114, 3, 0, 0, 0, 8, 0, 114, 0, 0, 0, 0, 1, 0, 112);
        Check.reads("both are strange", x, "strange at 10");
        x.put(15, 0);
        Check.reads("the first alone", x, "strange at 3");
        x.put(8, 9);
        Check.reads("none", x, "1 at -1");
    }

    private static void wrongParentComesBeforeStrange() {
        ThingStream x = shaped(172, 237, 115, 114, 3, 0, 0, 0, 8, 0, 114, 0, 0, 0, 0, 0, 0);
        Check.reads("a parent that does not end", x, "wrong at 17");
        x.put(4, 4);
        Check.reads("a parent that does not end, of no shape", x, "wrong at 17");
        x.put(17, 112);
        Check.reads("no shape", x, "strange at 3");
    }

    private static void recordsWithoutShape() {
        ThingStream x = shaped(172, 237, 117, 2, 115, 114, 3, 0, 0, 0, 9, 0, 114, 1, 0, 0, 0, 0, 0, 112, 115, 113, 0, 2);
        Check.reads("a parent that side 1 has not, then a record of it", x, "strange at 21");
        x.put(23, 1);
        Check.reads("a parent that side 1 has not", x, "3 at -1");
        Check.reads("no shapes", filled(172, 237, 115, 114, 0, 0, 0, 0, 0, 0, 112), "strange at 3");
        Check.reads("a record's description is none", shaped(172, 237, 115, 112), "wrong at 3");
    }

    private static void limitOfBytes() {
        ThingStream x = filled(172, 237, 117, 0);
        x.limit(0, 4);
        Check.reads("as long as the limit", x, "1 at -1");
        x.limit(0, 3);
        Check.reads("longer than the limit", x, "filtered at 0");
        x.put(0, 1);
        Check.reads("before all that is wrong", x, "filtered at 0");
        x.limit(0, 0);
        x.cut(0);
        Check.reads("nothing, and the limit 0", x, "wrong at 0");
        x.put(0, 172);
        Check.reads("one byte, and the limit 0", x, "filtered at 0");
        ThingStream full = new ThingStream();
        for (int k = 0; k < 1000; k++) {
            full.put(k, k < 2 ? 172 + k * 65 : 112);
        }
        Check.reads("1000 bytes", full, "wrong at 3");
        full.limit(0, 999);
        Check.reads("1000 bytes of 999", full, "filtered at 0");
    }

    private static void limitOfThings() {
        ThingStream x = shaped(172, 237, 117, 3, 117, 0, 113, 0, 0, 115, 114, 3, 0, 0, 0, 9, 0, 112);
        x.limit(2, 3);
        Check.reads("three of three", x, "3 at -1");
        x.limit(2, 2);
        Check.reads("three of two", x, "filtered at 9");
        x.limit(2, 1);
        Check.reads("three of one", x, "filtered at 4");
        x.limit(2, 0);
        Check.reads("three of none", x, "filtered at 2");
        Check.fill(x, 172, 237, 112);
        Check.reads("none of none", x, "0 at -1");
    }

    private static void limitOfDepth() {
        ThingStream x = shaped(172, 237, 117, 2, 117, 0, 115, 114, 3, 0, 0, 0, 9, 1, 1, 4, 112, 117, 1, 113, 0, 0);
        x.limit(3, 3);
        Check.reads("three deep", x, "4 at -1");
        x.limit(3, 2);
        Check.reads("two deep", x, "filtered at 17");
        x.limit(3, 1);
        Check.reads("one deep", x, "filtered at 4");
        x.limit(3, 0);
        Check.reads("none deep", x, "filtered at 2");
        Check.fill(x, 172, 237, 112);
        Check.reads("none at all", x, "0 at -1");
    }

    private static void orderOfTheFilter() {
        ThingStream x = filled(172, 237, 117, 1, 117, 9);
        x.limit(3, 1);
        Check.reads("depth before a length that is wrong", x, "filtered at 4");
        x.limit(3, 10);
        x.limit(2, 1);
        Check.reads("things before a length that is wrong", x, "filtered at 4");
        x.limit(2, 40);
        Check.reads("the length that is wrong", x, "wrong at 5");
        x.put(5, 5);
        x.limit(1, 4);
        Check.reads("the length before what is missing", x, "filtered at 5");
        x.limit(1, 5);
        Check.reads("what is missing", x, "wrong at 6");
        x = shaped(172, 237, 115, 112);
        x.limit(2, 0);
        Check.reads("things before a description that is wrong", x, "filtered at 2");
        x = filled(172, 237, 117);
        x.limit(3, 0);
        Check.reads("depth before a length that is missing", x, "filtered at 2");
    }

    private static void defaultLimits() {
        ThingStream x = filled(172, 237);
        for (int k = 0; k < 10; k++) {
            x.put(2 + 2 * k, 117);
            x.put(3 + 2 * k, 1);
        }
        x.put(22, 112);
        Check.reads("ten deep", x, "10 at -1");
        x.put(22, 117);
        x.put(23, 0);
        Check.reads("eleven deep", x, "filtered at 22");
        ManyRows rows = new ManyRows();
        Check.reads("40 things", rows.of(34), "40 at -1");
        ThingStream more = rows.of(35);
        Check.reads("41 things", more, "filtered at " + rows.lastRow);
        more.limit(2, 39);
        Check.reads("41 things of 39", more, "filtered at " + (rows.lastRow - 2));
    }

    /** Streams of many rows, none deeper than four. */
    private static final class ManyRows {
        private int lastRow;

        /** A row of 5 rows of 5, with so many rows more in them, 25 or above: some by twos, one in the other. */
        ThingStream of(int more) {
            ThingStream x = filled(172, 237, 117, 5);
            int left = more;
            for (int k = 0; k < 5; k++) {
                add(x, 117);
                add(x, 5);
                for (int j = 0; j < 5; j++) {
                    left -= addRows(x, left > 25 - 5 * k - j);
                }
            }
            return x;
        }

        private int addRows(ThingStream x, boolean two) {
            lastRow = x.at(-1);
            add(x, 117);
            add(x, two ? 1 : 0);
            return two ? 1 + addRows(x, false) : 1;
        }

        private static void add(ThingStream x, int b) {
            x.put(x.at(-1), b);
        }
    }

    private static void numbersWithSign() {
        ThingStream x = filled(172, 237, 115, 114, 0, 0, 0, 0, 0, 4, 0, 0, 1, 1, 2, 2, 3, 3, 112,
            128, 255, 254, 128, 0, 0, 1, 127, 255, 255, 255, 255, 255, 255, 253);
        x.shape(1, 0, -1, 0);
        for (int kind = 0; kind < 4; kind++) {
            x.field(1, 0, 3 - kind, 3 - kind);
        }
        Check.reads("numbers", x, "1 at -1");
        Check.same("one byte", x.get(1, 0, 0, 0), -128);
        Check.same("two bytes", x.get(1, 0, 0, 1), -2);
        Check.same("four bytes", x.get(1, 0, 0, 2), 0xffffffff80000001L);
        Check.same("eight bytes", x.get(1, 0, 0, 3), 0x7ffffffffffffffdL);
    }

    private static void otherShapesOnSide1() {
        // Side 0: 5 < 2 < 0. Side 1: 5 < 4 < 0, 2 beside; 5 has a field less and one more.
        ThingStream x = filled(172, 237, 115, 114, 5, 0, 0, 0, 0, 2, 1, 0, 2, 0, 114, 2, 0, 0, 0, 0, 1, 1, 0,
            114, 0, 0, 0, 0, 0, 1, 1, 0, 112, 10, 12, 51, 52);
        x.shape(1, 0, -1, 0);
        x.field(1, 0, 9, 4);
        x.field(1, 0, 1, 0);
        x.shape(1, 2, -1, 0);
        x.field(1, 2, 1, 0);
        x.shape(1, 4, 0, 1);
        x.field(1, 4, 1, 0);
        x.field(1, 4, 2, 4);
        x.shape(1, 5, 4, 0);
        x.field(1, 5, 8, 4);
        x.field(1, 5, 7, 3);
        x.field(1, 5, 2, 0);
        Check.reads("record", x, "1 at -1");
        Check.same("shape", x.thing(1, 0, 0), 5);
        Check.same("length", x.thing(1, 0, 1), -1);
        Check.same("a field of both", x.get(1, 0, 5, 2), 52);
        Check.same("a field that side 1 has not", x.get(1, 0, 5, 1), 0);
        Check.same("a number that the stream has not", x.get(1, 0, 5, 7), 0);
        Check.same("a link that the stream has not", x.get(1, 0, 5, 8), -1);
        Check.same("a number of a shape that the stream has not", x.get(1, 0, 4, 1), 0);
        Check.same("a link of a shape that the stream has not", x.get(1, 0, 4, 2), -1);
        Check.same("a shape behind it", x.get(1, 0, 0, 1), 10);
        Check.same("a link behind it", x.get(1, 0, 0, 9), -1);
        Check.same("a shape that is not in the chain on side 1", x.get(1, 0, 2, 1), 0);
        x.shape(1, 5, 3, 0);
        Check.reads("record", x, "1 at -1");
        Check.same("behind a parent that is not there", x.get(1, 0, 0, 1), 0);
        Check.same("a field that is gone", x.get(1, 0, 5, 2), 0);
    }

    private static void hiddenLinksCount() {
        // The link of name 7 shows nowhere, yet the row behind it is a thing and has a handle.
        ThingStream x = shaped(172, 237, 115, 114, 3, 0, 0, 0, 9, 2, 1, 4, 7, 4, 112, 117, 0, 117, 2, 113, 0, 2, 113, 0, 3);
        Check.reads("record", x, "3 at -1");
        Check.same("link", x.get(1, 0, 3, 1), 1);
        Check.same("length", x.thing(1, 1, 1), 0);
        Check.same("hidden length", x.thing(1, 2, 1), 2);
        Check.same("hidden link", x.goes(1, 2, 0), 1);
        Check.same("hidden link", x.goes(1, 2, 1), 2);
        Check.same("nothing there", x.get(1, 0, 3, 7), 0);
    }

    private static void whatThrowsLeavesThings() {
        ThingStream x = shaped(172, 237, 117, 2, 115, 114, 3, 0, 0, 0, 9, 1, 2, 0, 112, 77, 113, 0, 0);
        Check.reads("first", x, "2 at -1");
        String before = things(x);
        Check.same("things", before, "row 1 0; record 3 77 -1; ");
        Check.fill(x, 172, 237, 115, 114, 3, 0, 0, 0, 9, 1, 2, 0, 112, 5, 1);
        Check.reads("wrong", x, "wrong at 14");
        Check.same("things behind what is wrong", things(x), before);
        x.put(8, 8);
        Check.reads("strange", x, "strange at 3");
        Check.same("things behind what is strange", things(x), before);
        x.limit(2, 0);
        Check.reads("filtered", x, "filtered at 2");
        Check.same("things behind what is filtered", things(x), before);
        Check.same("the stream stays", x.at(-1), 15);
        x.limit(2, 40);
        x.put(8, 9);
        x.cut(14);
        Check.reads("another one", x, "1 at -1");
        Check.same("things", things(x), "record 3 5 -1; ");
        Check.fill(x, 172, 237, 112);
        Check.reads("none", x, "0 at -1");
        Check.same("no things", things(x), "");
    }

    private static String things(ThingStream x) {
        StringBuilder all = new StringBuilder();
        for (int thing = 0; thing < x.things(1); thing++) {
            if (x.thing(1, thing, 0) == -1) {
                all.append("row");
                for (int k = 0; k < x.thing(1, thing, 1); k++) {
                    all.append(' ').append(x.goes(1, thing, k));
                }
            } else {
                all.append("record ").append(x.thing(1, thing, 0));
                all.append(' ').append(x.get(1, thing, 3, 2)).append(' ').append(x.get(1, thing, 3, 1));
            }
            all.append("; ");
        }
        return all.toString();
    }

    private static void handlesBeginAnew() {
        ThingStream x = shaped(172, 237, 117, 2, 115, 114, 3, 0, 0, 0, 9, 0, 112, 117, 0);
        Check.reads("handles 0 to 3", x, "3 at -1");
        Check.fill(x, 172, 237, 113, 0, 0);
        Check.reads("a thing's handle of the read before", x, "wrong at 3");
        Check.fill(x, 172, 237, 115, 113, 0, 1);
        Check.reads("a description's handle of the read before", x, "wrong at 4");
    }

    /** 22 records, each with six descriptions of its own: as many as 1000 bytes have room for. */
    private static void manyDescriptions() {
        ThingStream x = filled(172, 237, 117, 5);
        x.shape(1, 5, -1, 0);
        for (int row = 0; row < 5; row++) {
            x.put(x.at(-1), 117);
            x.put(x.at(-1), row < 4 ? 5 : 2);
            for (int k = row < 4 ? 5 : 2; k > 0; k--) {
                addRecord(x);
            }
        }
        for (int round = 0; round < 3; round++) {
            Check.reads("132 descriptions", x, "28 at -1");
            Check.same("the last one's shape", x.thing(1, 27, 0), 5);
            Check.same("where it is", x.goes(1, 25, 1), 27);
        }
    }

    private static void addRecord(ThingStream x) {
        x.put(x.at(-1), 115);
        for (int number = 5; number >= 0; number--) {
            x.put(x.at(-1), 114);
            x.put(x.at(-1), number);
            for (int k = 0; k < 5; k++) {
                x.put(x.at(-1), 0);
            }
        }
        x.put(x.at(-1), 112);
    }

    private static void positionOfTheLatestRead() {
        ThingStream x = filled(172, 237, 1);
        Check.reads("wrong", x, "wrong at 2");
        Check.same("position again", x.position(), 2);
        x.put(2, 112);
        x.row(0);
        Check.same("position behind other calls", x.position(), 2);
        Check.reads("right", x, "0 at -1");
        Check.same("position again", x.position(), -1);
    }
}
