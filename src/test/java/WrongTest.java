/** Promises 14 and 15: what reading finds wrong, and where. */
public final class WrongTest {
    public static void main(String[] args) {
        bytesAreMissing();
        firstTwoBytes();
        tagsOfValues();
        tagsOfDescriptions();
        recordsDescriptionIsNone();
        handlesOfThings();
        handlesOfThingsAreNotOfDescriptions();
        handlesOfDescriptions();
        handlesOfDescriptionsAreNotOfThings();
        shapesAreAtMost5();
        parentsAreBelow();
        parentsByHandleAreBelow();
        fieldsAreAtMost4();
        namesAreAtMost9();
        kindsAreAtMost4();
        fieldsStandInOrder();
        namesAreThereOnce();
        rowsAreNotLongerThan5();
        nothingIsLeft();
        theFirstFaultCounts();
        Check.done();
    }

    private static void bytesAreMissing() {
        int[] record = {172, 237, 115, 114, 3, 0, 0, 0, 9, 2, 2, 0, 1, 4, 114, 0, 0, 0, 0, 0, 0, 112, 7, 113, 0, 2};
        for (int n = 0; n < record.length; n++) {
            Run x = Made.shaped(record);
            x.cut(n);
            Check.throwsAndLeaves("the first " + n + " of a record", x, "wrong at " + n);
        }
        Check.reads("the whole record", Made.shaped(record), "1 at -1");
        int[] rows = {172, 237, 117, 3, 117, 1, 113, 0, 1, 112, 115, 114, 3, 0, 0, 0, 9, 0, 112};
        for (int n = 0; n < rows.length; n++) {
            Run x = Made.shaped(rows);
            x.cut(n);
            Check.throwsAndLeaves("the first " + n + " of rows", x, "wrong at " + n);
        }
        Check.reads("the whole rows", Made.shaped(rows), "3 at -1");
        int[] handles = {172, 237, 117, 3, 115, 114, 3, 0, 0, 0, 9, 0, 112, 115, 113, 0, 1, 115, 114, 4, 0, 0, 0, 0, 0, 113, 0, 1};
        for (int n = 13; n < handles.length; n++) {
            Run x = Made.shaped(handles);
            x.cut(n);
            Check.throwsAndLeaves("the first " + n + " of handles", x, "wrong at " + n);
        }
        for (int kind = 0; kind < 4; kind++) {
            for (int n = 0; n < 1 << kind; n++) {
                Run x = Made.shaped(172, 237, 115, 114, 3, 0, 0, 0, 9, 1, 9, kind, 112);
                for (int k = 0; k < n; k++) {
                    x.append(255);
                }
                Check.reads(n + " bytes of kind " + kind, x, "wrong at " + (13 + n));
                x.append(255);
                Check.reads(n + 1 + " bytes of kind " + kind, x, n + 1 == 1 << kind ? "1 at -1" : "wrong at " + (14 + n));
            }
        }
    }

    private static void firstTwoBytes() {
        for (int b = 0; b < 256; b++) {
            Check.reads("first byte " + b, Run.of(b, 237, 112), b == 172 ? "0 at -1" : "wrong at 0");
            Check.reads("second byte " + b, Run.of(172, b, 112), b == 237 ? "0 at -1" : "wrong at 1");
        }
        Check.throwsAndLeaves("both are wrong", Made.shaped(0, 0), "wrong at 0");
        Check.throwsAndLeaves("the first one alone", Made.shaped(171), "wrong at 0");
        Check.throwsAndLeaves("the second one as the first", Made.shaped(237, 172, 112), "wrong at 0");
    }

    private static void tagsOfValues() {
        for (int b = 0; b < 256; b++) {
            if (b != 112 && b != 113 && b != 115 && b != 117) {
                Check.reads("value " + b, Made.shaped(172, 237, b, 0, 0, 0, 0), "wrong at 2");
                Check.reads("value " + b + " in a row", Made.shaped(172, 237, 117, 1, b, 0, 0), "wrong at 4");
                Check.reads("value " + b + " in a record", Made.shaped(172, 237, 115, 114, 3, 0, 0, 0, 9, 1, 1, 4, 112, b, 0),
                    "wrong at 13");
            }
        }
        int[] beside = {111, 114, 116, 118};
        for (int b : beside) {
            Check.throwsAndLeaves("value " + b, Made.shaped(172, 237, b), "wrong at 2");
        }
        Check.reads("112", Made.shaped(172, 237, 112), "0 at -1");
        Check.reads("113", Made.shaped(172, 237, 117, 1, 113, 0, 0), "1 at -1");
        Check.reads("115", Made.shaped(172, 237, 115, 114, 3, 0, 0, 0, 9, 0, 112), "1 at -1");
        Check.reads("117", Made.shaped(172, 237, 117, 0), "1 at -1");
    }

    private static void tagsOfDescriptions() {
        for (int b = 0; b < 256; b++) {
            if (b < 112 || b > 114) {
                Check.reads("description " + b, Made.shaped(172, 237, 115, b, 0, 0, 0, 0), "wrong at 3");
                Check.reads("parent " + b, Made.shaped(172, 237, 115, 114, 3, 0, 0, 0, 9, 0, b, 0), "wrong at 10");
            }
        }
        int[] beside = {111, 115};
        for (int b : beside) {
            Check.throwsAndLeaves("description " + b, Made.shaped(172, 237, 115, b), "wrong at 3");
            Check.throwsAndLeaves("parent " + b, Made.shaped(172, 237, 115, 114, 3, 0, 0, 0, 9, 0, b), "wrong at 10");
        }
    }

    private static void recordsDescriptionIsNone() {
        Check.throwsAndLeaves("a record without description", Made.shaped(172, 237, 115, 112), "wrong at 3");
        Check.throwsAndLeaves("the same in a row", Made.shaped(172, 237, 117, 1, 115, 112, 0), "wrong at 5");
        Check.reads("a parent that is none", Made.shaped(172, 237, 115, 114, 3, 0, 0, 0, 9, 0, 112), "1 at -1");
    }

    private static void handlesOfThings() {
        Check.throwsAndLeaves("no handle yet", Made.shaped(172, 237, 113, 0, 0), "wrong at 3");
        int[] rows = {172, 237, 117, 2, 117, 0, 113, 0, 1};
        Check.reads("the last one", Made.shaped(rows), "2 at -1");
        rows[8] = 0;
        Check.reads("the first one", Made.shaped(rows), "2 at -1");
        rows[8] = 2;
        Check.throwsAndLeaves("one too high", Made.shaped(rows), "wrong at 7");
        rows[8] = 255;
        Check.throwsAndLeaves("255", Made.shaped(rows), "wrong at 7");
        rows[7] = 1;
        rows[8] = 0;
        Check.throwsAndLeaves("256", Made.shaped(rows), "wrong at 7");
        rows[8] = 1;
        Check.throwsAndLeaves("257", Made.shaped(rows), "wrong at 7");
        rows[7] = 128;
        Check.throwsAndLeaves("the half of all", Made.shaped(rows), "wrong at 7");
        rows[7] = 255;
        rows[8] = 255;
        Check.throwsAndLeaves("the highest one", Made.shaped(rows), "wrong at 7");
        Check.throwsAndLeaves("a later one", Made.shaped(172, 237, 117, 2, 113, 0, 1, 117, 0), "wrong at 5");
    }

    private static void handlesOfThingsAreNotOfDescriptions() {
        int[] bytes = {172, 237, 115, 114, 3, 0, 0, 0, 9, 1, 1, 4, 114, 0, 0, 0, 0, 0, 0, 112, 113, 0, 2};
        Check.reads("the record", Made.shaped(bytes), "1 at -1");
        bytes[22] = 0;
        Check.throwsAndLeaves("its description", Made.shaped(bytes), "wrong at 21");
        bytes[22] = 1;
        Check.throwsAndLeaves("its parent's description", Made.shaped(bytes), "wrong at 21");
        bytes[22] = 3;
        Check.throwsAndLeaves("one too high", Made.shaped(bytes), "wrong at 21");
    }

    private static void handlesOfDescriptions() {
        Check.throwsAndLeaves("no handle yet", Made.shaped(172, 237, 115, 113, 0, 0), "wrong at 4");
        int[] two = {172, 237, 115, 114, 3, 0, 0, 0, 9, 1, 1, 4, 112, 115, 113, 0, 0, 112};
        Check.reads("the first one", Made.shaped(two), "2 at -1");
        two[16] = 2;
        Check.throwsAndLeaves("one too high", Made.shaped(two), "wrong at 15");
        two[15] = 1;
        two[16] = 0;
        Check.throwsAndLeaves("256", Made.shaped(two), "wrong at 15");
        two[15] = 255;
        two[16] = 255;
        Check.throwsAndLeaves("the highest one", Made.shaped(two), "wrong at 15");
        int[] parent = {172, 237, 115, 114, 3, 0, 0, 0, 9, 0, 113, 0, 1};
        Check.throwsAndLeaves("a parent one too high", Made.shaped(parent), "wrong at 11");
        parent[11] = 1;
        Check.throwsAndLeaves("a parent far too high", Made.shaped(parent), "wrong at 11");
    }

    private static void handlesOfDescriptionsAreNotOfThings() {
        int[] two = {172, 237, 117, 2, 115, 114, 3, 0, 0, 0, 9, 0, 112, 115, 113, 0, 1};
        Check.reads("a description", Made.shaped(two), "3 at -1");
        two[16] = 0;
        Check.throwsAndLeaves("a row", Made.shaped(two), "wrong at 15");
        two[16] = 2;
        Check.throwsAndLeaves("a record", Made.shaped(two), "wrong at 15");
        two[16] = 3;
        Check.throwsAndLeaves("the next one", Made.shaped(two), "wrong at 15");
        int[] parent = {172, 237, 117, 2, 115, 114, 0, 0, 0, 0, 0, 0, 112, 115, 114, 3, 0, 0, 0, 9, 0, 113, 0, 1};
        Check.reads("a parent", Made.shaped(parent), "3 at -1");
        parent[23] = 0;
        Check.throwsAndLeaves("a row as parent", Made.shaped(parent), "wrong at 22");
        parent[23] = 2;
        Check.throwsAndLeaves("a record as parent", Made.shaped(parent), "wrong at 22");
    }

    private static void shapesAreAtMost5() {
        for (int number = 0; number < 256; number++) {
            Run x = Made.shaped(172, 237, 115, 114, number, 0, 0, 0, 9, 0, 112);
            x.shape(1, 5, -1, 9);
            String due = number > 5 ? "wrong at 4" : number == 3 || number == 5 ? "1 at -1" : "strange at 3";
            Check.reads("number " + number, x, due);
        }
        Check.throwsAndLeaves("number 6", Made.shaped(172, 237, 115, 114, 6), "wrong at 4");
        Check.throwsAndLeaves("number 255", Made.shaped(172, 237, 115, 114, 255), "wrong at 4");
    }

    private static void parentsAreBelow() {
        for (int own = 0; own <= 5; own++) {
            for (int parent = 0; parent <= 7; parent++) {
                Run x = Run.of(172, 237, 115, 114, own, 0, 0, 0, 0, 0, 114, parent, 0, 0, 0, 0, 0, 112);
                x.shape(1, own, -1, 0);
                Check.reads(parent + " as parent of " + own, x, parent < own ? "1 at -1" : "wrong at 11");
            }
        }
        Check.throwsAndLeaves("3 below 3", Made.shaped(172, 237, 115, 114, 3, 0, 0, 0, 9, 0, 114, 3), "wrong at 11");
        Check.throwsAndLeaves("255 below 3", Made.shaped(172, 237, 115, 114, 3, 0, 0, 0, 9, 0, 114, 255), "wrong at 11");
        int[] third = {172, 237, 115, 114, 3, 0, 0, 0, 9, 0, 114, 1, 0, 0, 0, 0, 0, 114, 1, 0, 0, 0, 0, 0, 112};
        Check.throwsAndLeaves("1 below 1 below 3", Made.shaped(third), "wrong at 18");
        third[18] = 2;
        Check.throwsAndLeaves("2 below 1 below 3", Made.shaped(third), "wrong at 18");
        third[18] = 0;
        Check.reads("0 below 1 below 3", Made.shaped(third), "1 at -1");
    }

    private static void parentsByHandleAreBelow() {
        for (int first = 0; first <= 5; first++) {
            for (int second = 0; second <= 5; second++) {
                Run x = Run.of(172, 237, 117, 2, 115, 114, first, 0, 0, 0, 0, 0, 112, 115, 114, second, 0, 0, 0, 0, 0, 113, 0, 1);
                x.shape(1, first, -1, 0);
                x.shape(1, second, -1, 0);
                Check.reads(first + " by handle as parent of " + second, x, first < second ? "3 at -1" : "wrong at 22");
            }
        }
        Check.throwsAndLeaves("itself as parent", Made.shaped(172, 237, 115, 114, 3, 0, 0, 0, 9, 0, 113, 0, 0), "wrong at 11");
        Check.throwsAndLeaves("the one above as parent",
            Made.shaped(172, 237, 115, 114, 3, 0, 0, 0, 9, 0, 114, 2, 0, 0, 0, 0, 0, 113, 0, 0), "wrong at 18");
        Check.reads("5 by handle as a record's own", withShape5(172, 237, 117, 2, 115, 114, 5, 0, 0, 0, 0, 0, 112, 115, 113, 0, 1),
            "3 at -1");
    }

    private static Run withShape5(int... bytes) {
        Run x = Run.of(bytes);
        x.shape(1, 5, -1, 0);
        return x;
    }

    private static void fieldsAreAtMost4() {
        for (int count = 5; count < 256; count++) {
            Check.reads(count + " fields", Made.shaped(172, 237, 115, 114, 3, 0, 0, 0, 9, count), "wrong at 9");
        }
        Check.throwsAndLeaves("5 fields",
            Made.shaped(172, 237, 115, 114, 3, 0, 0, 0, 9, 5, 2, 0, 3, 0, 4, 0, 5, 0, 6, 0, 112, 1, 1, 1, 1, 1), "wrong at 9");
        Check.reads("4 fields",
            Made.shaped(172, 237, 115, 114, 3, 0, 0, 0, 9, 4, 2, 0, 3, 0, 4, 0, 5, 0, 112, 1, 1, 1, 1), "1 at -1");
        Check.reads("no fields", Made.shaped(172, 237, 115, 114, 3, 0, 0, 0, 9, 0, 112), "1 at -1");
    }

    private static void namesAreAtMost9() {
        for (int name = 10; name < 256; name++) {
            Check.reads("name " + name, Made.shaped(172, 237, 115, 114, 3, 0, 0, 0, 9, 1, name, 0, 112, 1), "wrong at 10");
        }
        Check.throwsAndLeaves("name 10, and no kind", Made.shaped(172, 237, 115, 114, 3, 0, 0, 0, 9, 1, 10), "wrong at 10");
        Check.throwsAndLeaves("name 10, and no such kind", Made.shaped(172, 237, 115, 114, 3, 0, 0, 0, 9, 1, 10, 5), "wrong at 10");
        Check.reads("name 9", Made.shaped(172, 237, 115, 114, 3, 0, 0, 0, 9, 1, 9, 0, 112, 1), "1 at -1");
        Check.reads("name 0", Made.shaped(172, 237, 115, 114, 3, 0, 0, 0, 9, 1, 0, 0, 112, 1), "1 at -1");
        Check.throwsAndLeaves("name 10 as the second one",
            Made.shaped(172, 237, 115, 114, 3, 0, 0, 0, 9, 2, 9, 0, 10, 0, 112, 1, 1), "wrong at 12");
    }

    private static void kindsAreAtMost4() {
        for (int kind = 5; kind < 256; kind++) {
            Check.reads("kind " + kind, Made.shaped(172, 237, 115, 114, 3, 0, 0, 0, 9, 1, 7, kind, 112, 112), "wrong at 11");
        }
        Check.throwsAndLeaves("kind 5", Made.shaped(172, 237, 115, 114, 3, 0, 0, 0, 9, 1, 7, 5), "wrong at 11");
        Check.reads("kind 4", Made.shaped(172, 237, 115, 114, 3, 0, 0, 0, 9, 1, 7, 4, 112, 112), "1 at -1");
        Check.reads("kind 0", Made.shaped(172, 237, 115, 114, 3, 0, 0, 0, 9, 1, 7, 0, 112, 112), "1 at -1");
    }

    private static void fieldsStandInOrder() {
        for (int names = 0; names < 100; names++) {
            for (int kinds = 0; kinds < 25; kinds++) {
                int[] field = {names / 10, kinds / 5, names % 10, kinds % 5};
                boolean rises = field[0] < field[2];
                boolean right = (field[1] == 4) == (field[3] == 4) ? rises : field[0] != field[2] && field[3] == 4;
                Run x = Run.of(172, 237, 115, 114, 3, 0, 0, 0, 9, 2, field[0], field[1], field[2], field[3], 112);
                Check.reads("fields " + names + " of kinds " + kinds, x, right ? "strange at 3" : "wrong at 13");
            }
        }
        Check.throwsAndLeaves("names that fall",
            Made.shaped(172, 237, 115, 114, 3, 0, 0, 0, 9, 2, 8, 0, 7, 0, 112, 1, 1), "wrong at 13");
        Check.throwsAndLeaves("links whose names fall",
            Made.shaped(172, 237, 115, 114, 3, 0, 0, 0, 9, 2, 8, 4, 7, 4, 112, 112, 112), "wrong at 13");
        Check.throwsAndLeaves("a number behind a link",
            Made.shaped(172, 237, 115, 114, 3, 0, 0, 0, 9, 3, 5, 0, 7, 4, 8, 3, 112), "wrong at 15");
        Check.reads("a lower name of a link behind a number",
            Made.shaped(172, 237, 115, 114, 3, 0, 0, 0, 9, 4, 8, 0, 9, 0, 0, 4, 7, 4, 112, 1, 1, 112, 112), "1 at -1");
        Check.throwsAndLeaves("the fourth one falls",
            Made.shaped(172, 237, 115, 114, 3, 0, 0, 0, 9, 4, 6, 0, 7, 0, 9, 0, 8, 0, 112), "wrong at 17");
    }

    private static void namesAreThereOnce() {
        Check.throwsAndLeaves("the same field twice",
            Made.shaped(172, 237, 115, 114, 3, 0, 0, 0, 9, 2, 7, 0, 7, 0, 112, 1, 1), "wrong at 13");
        Check.throwsAndLeaves("the same name, a number and a link",
            Made.shaped(172, 237, 115, 114, 3, 0, 0, 0, 9, 2, 7, 0, 7, 4, 112, 1, 112), "wrong at 13");
        Check.throwsAndLeaves("the first one's name as the third",
            Made.shaped(172, 237, 115, 114, 3, 0, 0, 0, 9, 3, 7, 0, 8, 0, 7, 4, 112), "wrong at 15");
        Check.throwsAndLeaves("the second one's name as the fourth",
            Made.shaped(172, 237, 115, 114, 3, 0, 0, 0, 9, 4, 6, 0, 8, 0, 7, 4, 8, 4, 112), "wrong at 17");
        Check.throwsAndLeaves("a name that is there, and no kind",
            Made.shaped(172, 237, 115, 114, 3, 0, 0, 0, 9, 2, 7, 0, 7), "wrong at 13");
        Check.reads("the same name in the parent",
            Made.shaped(172, 237, 115, 114, 3, 0, 0, 0, 9, 1, 7, 0, 114, 0, 0, 0, 0, 0, 1, 7, 0, 112, 1, 1), "1 at -1");
    }

    private static void rowsAreNotLongerThan5() {
        for (int length = 0; length < 256; length++) {
            Run x = Run.of(Made.rowOf(Math.min(length, 6)));
            x.put(3, length);
            Check.reads("length " + length, x, length > 5 ? "wrong at 3" : "1 at -1");
        }
        Check.throwsAndLeaves("length 6", Made.shaped(172, 237, 117, 6), "wrong at 3");
        Check.throwsAndLeaves("length 6 in a row", Made.shaped(172, 237, 117, 1, 117, 6), "wrong at 5");
        for (int limit = 0; limit <= 5; limit++) {
            Run x = Made.shaped(Made.rowOf(6));
            x.limit(1, limit);
            Check.throwsAndLeaves("length 6, whatever the limit is", x, "wrong at 3");
        }
    }

    private static void nothingIsLeft() {
        int[][] whole = {{172, 237, 112}, {172, 237, 117, 0}, {172, 237, 117, 1, 113, 0, 0},
            {172, 237, 115, 114, 3, 0, 0, 0, 9, 1, 2, 0, 112, 7}};
        for (int[] bytes : whole) {
            Run x = Made.shaped(bytes);
            x.append(112);
            Check.throwsAndLeaves("one too many", x, "wrong at " + bytes.length);
            x.append(0);
            Check.throwsAndLeaves("two too many", x, "wrong at " + bytes.length);
            x.cut(bytes.length);
            Check.reads("none too many", x, bytes[2] == 112 ? "0 at -1" : "1 at -1");
        }
        int[] full = new int[1000];
        full[0] = 172;
        full[1] = 237;
        full[2] = 112;
        Check.reads("997 too many", Run.of(full), "wrong at 3");
    }

    private static void theFirstFaultCounts() {
        Check.reads("a handle, then a tag", Made.shaped(172, 237, 117, 2, 113, 9, 9, 1), "wrong at 5");
        Check.reads("a tag, then a handle", Made.shaped(172, 237, 117, 2, 1, 113, 9, 9), "wrong at 4");
        Check.reads("a tag, then something left", Made.shaped(172, 237, 117, 1, 1, 1), "wrong at 4");
        Check.reads("a number of fields, then a name", Made.shaped(172, 237, 115, 114, 3, 0, 0, 0, 9, 5, 10), "wrong at 9");
        Check.reads("a shape's number, then a number of fields", Made.shaped(172, 237, 115, 114, 6, 0, 0, 0, 9, 5), "wrong at 4");
    }
}
