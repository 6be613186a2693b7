import java.util.Arrays;

/** Promise 14: read, and what the terms say of side 1's things. */
public final class ReadTest {
    public static void main(String[] args) {
        answersHowManyThings();
        streamStays();
        side0Stays();
        thingsBeforeAreGone();
        whatThrowsLeavesThings();
        readsTheSameAgain();
        thingsAreNumberedAsTheirHandles();
        sharedAndRound();
        numbersHaveSigns();
        fieldsOfSide1Alone();
        fieldsOfTheStreamAlone();
        shapesOfSide1Alone();
        shapesOfTheStreamAlone();
        chainOfSide1Ends();
        ownDescriptionsAlone();
        handlesBeginAnew();
        everyFieldHasItsOwnValue();
        manyDescriptions();
        manyFieldsInDescriptions();
        Check.done();
    }

    private static void answersHowManyThings() {
        Check.reads("112", Made.shaped(172, 237, 112), "0 at -1");
        Check.reads("a row", Made.shaped(172, 237, 117, 0), "1 at -1");
        Check.reads("a record", Made.shaped(172, 237, 115, 114, 3, 0, 0, 0, 9, 0, 112), "1 at -1");
        Check.reads("39 rows", Made.shaped(Made.rows(39)), "39 at -1");
        Check.reads("40 rows", Made.shaped(Made.rows(40)), "40 at -1");
    }

    private static void streamStays() {
        int[][] all = {{172, 237, 117, 1, 112}, {172, 237, 117, 1}, {172, 237, 115, 114, 4, 0, 0, 0, 0, 0, 112}, {},
            Made.deepRows(11)};
        for (int[] bytes : all) {
            Run x = Made.shaped(bytes);
            String before = x.bytes();
            x.read();
            Check.same("stream", x.bytes(), before);
        }
    }

    private static void side0Stays() {
        Run x = Made.busy();
        String before = State.things(x, 0) + State.shapesOfSide0(x) + State.shapesOfSide1(x) + State.limits(x);
        x.cut(59);
        Check.reads("what was written", x, "4 at -1");
        Check.same("side 0", State.things(x, 0) + State.shapesOfSide0(x) + State.shapesOfSide1(x) + State.limits(x), before);
    }

    private static void thingsBeforeAreGone() {
        Run x = Made.shaped(172, 237, 112);
        Check.same("things before", x.things(1), 2);
        Check.reads("none", x, "0 at -1");
        Check.same("things", State.things(x, 1), "things of side 1:\n");
        Check.same("thing", x.thing(1, 0, 0), -2);
        x.fill(172, 237, 115, 114, 3, 0, 0, 0, 9, 0, 112);
        Check.reads("a record", x, "1 at -1");
        Check.same("things", State.things(x, 1), "things of side 1: (3 -1: 3.1=-1)\n");
        x.fill(172, 237, 117, 1, 112);
        Check.reads("a row", x, "1 at -1");
        Check.same("things", State.things(x, 1), "things of side 1: (-1 1: -1)\n");
        x.fill(172, 237, 117, 2, 115, 114, 3, 0, 0, 0, 9, 0, 112, 112);
        Check.reads("a row and a record", x, "2 at -1");
        Check.same("things", State.things(x, 1), "things of side 1: (-1 2: 1 -1) (3 -1: 3.1=-1)\n");
    }

    private static void whatThrowsLeavesThings() {
        Run x = Made.shaped(172, 237, 115, 114, 3, 0, 0, 0, 9, 1, 2, 0, 112, 5, 1);
        String before = "things of side 1: (-1 2: 1 0) (3 -1: 3.1=-1 3.2=77)\n";
        Check.same("things", State.things(x, 1), before);
        Check.throwsAndLeaves("what is wrong", x, "wrong at 14");
        Check.same("things behind what is wrong", State.things(x, 1), before);
        x.put(8, 8);
        Check.throwsAndLeaves("what is strange", x, "strange at 3");
        Check.same("things behind what is strange", State.things(x, 1), before);
        x.limit(2, 0);
        Check.throwsAndLeaves("what is filtered", x, "filtered at 2");
        Check.same("things behind what is filtered", State.things(x, 1), before);
        x.limit(2, 40);
        x.put(8, 9);
        x.cut(14);
        Check.reads("what is right", x, "1 at -1");
        Check.same("things", State.things(x, 1), "things of side 1: (3 -1: 3.1=-1 3.2=5)\n");
    }

    private static void readsTheSameAgain() {
        Run x = Made.busy();
        x.cut(59);
        Check.reads("first", x, "4 at -1");
        String before = State.of(x);
        Check.reads("again", x, "4 at -1");
        Check.reads("and again", x, "4 at -1");
        Check.same("state", State.of(x), before);
    }

    private static void thingsAreNumberedAsTheirHandles() {
        Run x = Made.busy();
        x.cut(59);
        x.read();
        Check.same("things", State.things(x, 1), "things of side 1: (4 -1: 1.3=70000 1.4=1 4.0=2 4.3=300 4.9=-2)"
            + " (1 -1: 1.3=-7 1.4=-1) (-1 3: 0 -1 3) (-1 0:)\n");
    }

    private static void sharedAndRound() {
        Run x = Run.of(172, 237, 117, 3, 117, 2, 113, 0, 0, 113, 0, 1, 113, 0, 1, 117, 1, 113, 0, 1);
        Check.reads("rows", x, "3 at -1");
        Check.same("things", State.things(x, 1), "things of side 1: (-1 3: 1 1 2) (-1 2: 0 1) (-1 1: 1)\n");
    }

    private static void numbersHaveSigns() {
        int[] head = {172, 237, 115, 114, 0, 0, 0, 0, 0, 1, 5, 0, 112};
        for (int kind = 0; kind < 4; kind++) {
            head[11] = kind;
            int bytes = 1 << kind;
            long most = (1L << 8 * bytes - 1) - 1;
            long[] values = {0, 1, -1, most, most - 1, -most, -most - 1};
            for (long value : values) {
                Run x = Run.of(head);
                x.shape(1, 0, -1, 0);
                x.field(1, 0, 5, kind);
                for (int k = bytes - 1; k >= 0; k--) {
                    x.append((int) (value >> 8 * k));
                }
                Check.reads("kind " + kind, x, "1 at -1");
                Check.same("kind " + kind, x.get(1, 0, 0, 5), value);
            }
        }
    }

    private static void fieldsOfSide1Alone() {
        Run x = Made.shaped(172, 237, 115, 114, 3, 0, 0, 0, 9, 1, 7, 0, 112, 55);
        x.field(1, 3, 8, 3);
        x.field(1, 3, 0, 4);
        Check.reads("a record", x, "1 at -1");
        Check.same("a number", x.get(1, 0, 3, 2), 0);
        Check.same("a number of eight bytes", x.get(1, 0, 3, 8), 0);
        Check.same("a link", x.get(1, 0, 3, 1), -1);
        Check.same("another link", x.get(1, 0, 3, 0), -1);
        x.fill(172, 237, 115, 114, 3, 0, 0, 0, 9, 0, 112);
        Check.reads("a record without fields", x, "1 at -1");
        Check.same("a number", x.get(1, 0, 3, 8), 0);
        Check.same("a link", x.get(1, 0, 3, 0), -1);
    }

    private static void fieldsOfTheStreamAlone() {
        Run x = Made.shaped(172, 237, 115, 114, 3, 0, 0, 0, 9, 4, 2, 0, 6, 1, 1, 4, 7, 4, 112, 5, 1, 1, 117, 0, 117, 2,
            113, 0, 2, 113, 0, 3);
        Check.reads("a record", x, "3 at -1");
        Check.same("a field of both", x.get(1, 0, 3, 2), 5);
        Check.same("a link of both", x.get(1, 0, 3, 1), 1);
        Check.same("a number of the stream", x.get(1, 0, 3, 6), 0);
        Check.same("a link of the stream", x.get(1, 0, 3, 7), 0);
        Check.same("the row that it links to", x.thing(1, 2, 1), 2);
        Check.same("its first link", x.goes(1, 2, 0), 1);
        Check.same("its second link", x.goes(1, 2, 1), 2);
    }

    private static void shapesOfSide1Alone() {
        // The stream has 5, 0; side 1 has 5, 4, 0.
        Run x = Run.of(172, 237, 115, 114, 5, 0, 0, 0, 0, 1, 1, 0, 114, 0, 0, 0, 0, 0, 1, 1, 0, 112, 10, 15);
        x.shape(1, 0, -1, 0);
        x.field(1, 0, 1, 0);
        x.shape(1, 4, 0, 77);
        x.field(1, 4, 1, 0);
        x.field(1, 4, 2, 4);
        x.shape(1, 5, 4, 0);
        x.field(1, 5, 1, 0);
        Check.reads("a record", x, "1 at -1");
        Check.same("its own", x.get(1, 0, 5, 1), 15);
        Check.same("a number of the shape between", x.get(1, 0, 4, 1), 0);
        Check.same("a link of the shape between", x.get(1, 0, 4, 2), -1);
        Check.same("behind it", x.get(1, 0, 0, 1), 10);
    }

    private static void shapesOfTheStreamAlone() {
        // The stream has 5, 2, 0; side 1 has 5, 0 and, beside them, 2.
        Run x = Run.of(172, 237, 115, 114, 5, 0, 0, 0, 0, 1, 1, 0, 114, 2, 0, 0, 0, 0, 1, 1, 0, 114, 0, 0, 0, 0, 0, 1, 1, 0, 112,
            10, 12, 15);
        x.shape(1, 0, -1, 0);
        x.field(1, 0, 1, 0);
        x.shape(1, 2, -1, 0);
        x.field(1, 2, 1, 0);
        x.shape(1, 5, 0, 0);
        x.field(1, 5, 1, 0);
        Check.reads("a record", x, "1 at -1");
        Check.same("its own", x.get(1, 0, 5, 1), 15);
        Check.same("the shape beside", x.get(1, 0, 2, 1), 0);
        Check.same("behind it", x.get(1, 0, 0, 1), 10);
    }

    private static void chainOfSide1Ends() {
        Run x = Run.of(172, 237, 115, 114, 5, 0, 0, 0, 0, 1, 1, 0, 114, 0, 0, 0, 0, 0, 1, 1, 0, 112, 10, 15);
        x.shape(1, 0, -1, 0);
        x.field(1, 0, 1, 0);
        x.shape(1, 5, -1, 0);
        x.field(1, 5, 1, 0);
        Check.reads("a record", x, "1 at -1");
        Check.same("its own", x.get(1, 0, 5, 1), 15);
        Check.same("no parent on side 1", x.get(1, 0, 0, 1), 0);
        x.shape(1, 5, 3, 0);
        Check.reads("a record", x, "1 at -1");
        Check.same("a parent that is not there on side 1", x.get(1, 0, 0, 1), 0);
        x.shape(1, 3, 0, 0);
        Check.reads("a record", x, "1 at -1");
        Check.same("a parent that is there by then", x.get(1, 0, 0, 1), 10);
    }

    /** The second record's chain is 5 alone, whatever the first one's was. */
    private static void ownDescriptionsAlone() {
        Run x = Run.of(172, 237, 117, 2, 115, 114, 5, 0, 0, 0, 0, 1, 1, 0, 114, 0, 0, 0, 0, 0, 1, 1, 0, 112, 10, 15,
            115, 114, 5, 0, 0, 0, 0, 1, 2, 0, 112, 25);
        x.shape(1, 0, -1, 0);
        x.field(1, 0, 1, 0);
        x.shape(1, 5, 0, 0);
        x.field(1, 5, 1, 0);
        x.field(1, 5, 2, 0);
        Check.reads("two records", x, "3 at -1");
        Check.same("the first", x.get(1, 1, 5, 1), 15);
        Check.same("the first's parent", x.get(1, 1, 0, 1), 10);
        Check.same("no such field", x.get(1, 1, 5, 2), 0);
        Check.same("the second", x.get(1, 2, 5, 2), 25);
        Check.same("no such field", x.get(1, 2, 5, 1), 0);
        Check.same("no such description", x.get(1, 2, 0, 1), 0);
    }

    private static void handlesBeginAnew() {
        Run x = Made.shaped(172, 237, 117, 2, 115, 114, 3, 0, 0, 0, 9, 0, 112, 117, 0);
        Check.reads("handles 0 to 3", x, "3 at -1");
        x.fill(172, 237, 113, 0, 0);
        Check.throwsAndLeaves("a thing's handle of the read before", x, "wrong at 3");
        x.fill(172, 237, 115, 113, 0, 1);
        Check.throwsAndLeaves("a description's handle of the read before", x, "wrong at 4");
        x.fill(172, 237, 117, 1, 113, 0, 3);
        Check.throwsAndLeaves("a higher handle of the read before", x, "wrong at 5");
    }

    private static void everyFieldHasItsOwnValue() {
        Run x = new Run();
        Made.bigShapes(x, 0);
        Made.bigShapes(x, 1);
        x.row(2);
        x.build(5);
        x.build(5);
        x.link(0, 0, 1);
        x.link(0, 1, 2);
        for (int k = 0; k < 48; k++) {
            x.set(1 + k / 24, k / 4 % 6, k % 4, 1000 + k);
        }
        Check.same("write", x.write(0), 2 + 2 + 92 + 192 + 4 + 192);
        Check.reads("two records", x, "3 at -1");
        for (int k = 0; k < 48; k++) {
            Check.same("get", x.get(1, 1 + k / 24, k / 4 % 6, k % 4), 1000 + k);
        }
    }

    /** Records with six descriptions of their own each: as many as 1000 bytes have room for. */
    private static void manyDescriptions() {
        int[] bytes = new int[1000];
        int[] rows = {172, 237, 117, 5, 117, 5};
        System.arraycopy(rows, 0, bytes, 0, rows.length);
        int place = rows.length;
        for (int record = 0; record < 22; record++) {
            if (record > 0 && record % 5 == 0) {
                bytes[place++] = 117;
                bytes[place++] = record == 20 ? 2 : 5;
            }
            bytes[place++] = 115;
            for (int number = 5; number >= 0; number--) {
                bytes[place] = 114;
                bytes[place + 1] = number;
                place += 7;
            }
            bytes[place++] = 112;
        }
        Run x = Run.of(Arrays.copyOf(bytes, place));
        x.shape(1, 5, -1, 0);
        for (int round = 0; round < 3; round++) {
            Check.reads("132 descriptions", x, "28 at -1");
            Check.same("the last one's shape", x.thing(1, 27, 0), 5);
            Check.same("where it is", x.goes(1, 25, 1), 27);
        }
        x.append(112);
        Check.reads("132 descriptions and one byte", x, "wrong at " + place);
    }

    /** Six descriptions, each with as many fields as there can be. */
    private static void manyFieldsInDescriptions() {
        Run x = new Run();
        Made.bigShapes(x, 1);
        Made.for999Bytes(x);
        x.set(1, 0, 0, Long.MIN_VALUE);
        x.set(4, 5, 3, Long.MAX_VALUE);
        x.set(6, 2, 3, -1);
        x.write(0);
        Check.reads("999 bytes", x, "10 at -1");
        Check.same("the first field", x.get(1, 1, 0, 0), Long.MIN_VALUE);
        Check.same("the last field", x.get(1, 4, 5, 3), Long.MAX_VALUE);
        Check.same("the shorter one's last field", x.get(1, 6, 2, 3), -1);
        Check.same("the shorter one's shape", x.thing(1, 6, 0), 2);
    }
}
