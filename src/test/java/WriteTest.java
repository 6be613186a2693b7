/** Promise 8: write, and what the terms say of writing. */
public final class WriteTest {
    public static void main(String[] args) {
        thingMustBeThere();
        streamIsReplaced();
        leavesAllElse();
        has1000BytesAtMost();
        farMoreThan1000Bytes();
        emptyRowIsShortest();
        thingsAreWrittenOnce();
        fieldsStandInOrder();
        numbersHaveTheirBytes();
        parentsValuesComeFirst();
        descriptionsAreWrittenOnce();
        handlesCountDescriptionsAndThings();
        longestChainOfThings();
        Check.done();
    }

    private static void thingMustBeThere() {
        int[] wrong = {-1, 4, 24, Integer.MIN_VALUE, Integer.MAX_VALUE};
        for (int thing : wrong) {
            Check.leaves("write of " + thing, Made.busy(), -1, t -> t.write(thing));
        }
        Check.same("write of 0", Made.busy().write(0), 59);
        Check.same("write of 3", Made.busy().write(3), 4);
        Check.leaves("write without things", Made.cleared(), -1, t -> t.write(0));
        Run full = Made.full();
        Check.same("write of the 24th", full.write(23), 14);
        Check.leaves("write of a 25th", full, -1, t -> t.write(24));
    }

    private static void streamIsReplaced() {
        Run x = Made.busy();
        Check.same("a shorter one", x.write(3), 4);
        Check.same("stream", x.bytes(), "172 237 117 0");
        Check.same("a longer one", x.write(1), 59);
        Check.same("the same again", x.write(1), 59);
        Check.same("how many", x.at(-1), 59);
        Check.same("behind the last", x.at(59), -1);
    }

    private static void leavesAllElse() {
        Run x = Made.busy();
        x.cut(59);
        Check.leaves("write of what was written", x, 59, t -> t.write(0));
        x = Made.busy();
        String before = State.things(x, 0) + State.things(x, 1) + State.limits(x) + x.position();
        x.write(3);
        Check.same("all but the stream", State.things(x, 0) + State.things(x, 1) + State.limits(x) + x.position(), before);
    }

    private static void has1000BytesAtMost() {
        Run x = new Run();
        Made.for999Bytes(x);
        Check.same("999 bytes", x.write(0), 999);
        int last = x.row(0);
        x.link(5, 4, last);
        Check.same("1000 bytes", x.write(0), 1000);
        Check.same("how many", x.at(-1), 1000);
        Check.same("the last byte", x.at(999), 0);
        Check.same("the last but one", x.at(998), 117);
        Check.same("behind the last", x.at(1000), -1);
        x.link(7, 0, x.row(0));
        Check.same("1001 bytes", x.write(0), 0);
        Check.same("how many", x.at(-1), 0);
        Check.same("no byte", x.at(0), -1);
        Check.reads("what is empty", x, "wrong at 0");
        x.link(7, 0, -1);
        Check.same("1000 bytes again", x.write(0), 1000);
        x.link(7, 0, 0);
        Check.same("1002 bytes", x.write(0), 0);
        Check.same("how many", x.at(-1), 0);
        Check.same("a small one behind it", x.write(last), 4);
    }

    /** 19 records of 192 bytes in rows of five. */
    private static void farMoreThan1000Bytes() {
        Run x = new Run();
        Made.bigShapes(x, 0);
        x.row(5);
        for (int k = 1; k < 24; k++) {
            if (k % 5 == 0) {
                x.link((k - 5) / 5 * 5, 4, x.row(5));
            } else {
                x.link(k / 5 * 5, k % 5 - 1, x.build(5));
            }
        }
        x.set(1, 0, 0, 5);
        String before = State.things(x, 0);
        Check.same("write", x.write(0), 0);
        Check.same("the stream is empty", x.at(-1), 0);
        Check.same("side 0's things", State.things(x, 0), before);
        Check.same("a record of them", x.write(1), 2 + 92 + 192);
    }

    private static void emptyRowIsShortest() {
        Run x = new Run();
        x.row(0);
        Check.same("write", x.write(0), 4);
        Check.same("stream", x.bytes(), "172 237 117 0");
    }

    private static void thingsAreWrittenOnce() {
        Run x = new Run();
        x.row(2);
        x.row(3);
        x.link(0, 0, 1);
        x.link(0, 1, 1);
        x.link(1, 0, 0);
        x.link(1, 2, 1);
        Check.same("write(0)", x.write(0), 16);
        Check.same("stream", x.bytes(), "172 237 117 2 117 3 113 0 0 112 113 0 1 113 0 1");
        Check.same("write(1)", x.write(1), 16);
        Check.same("stream", x.bytes(), "172 237 117 3 117 2 113 0 0 113 0 0 112 113 0 0");
    }

    private static void fieldsStandInOrder() {
        int[][] added = {{2, 4, 9, 1, 0, 4, 4, 3}, {4, 3, 9, 1, 0, 4, 2, 4}, {2, 4, 0, 4, 9, 1, 4, 3}, {9, 1, 4, 3, 2, 4, 0, 4}};
        for (int[] fields : added) {
            Run x = new Run();
            x.shape(0, 3, -1, 0x01020384);
            for (int k = 0; k < 8; k += 2) {
                x.field(0, 3, fields[k], fields[k + 1]);
            }
            x.build(3);
            x.set(0, 3, 9, 0x89ab);
            x.set(0, 3, 4, 0xf123456789abcdefL);
            x.set(0, 3, 2, 0);
            Check.same("write", x.write(0), 33);
            Check.same("stream", x.bytes(), "172 237 115 114 3 1 2 3 132 4 4 3 9 1 0 4 2 4 112"
                + " 241 35 69 103 137 171 205 239 137 171 112 113 0 1");
        }
    }

    private static void numbersHaveTheirBytes() {
        Run x = new Run();
        x.shape(0, 0, -1, 0);
        for (int kind = 0; kind < 4; kind++) {
            x.field(0, 0, kind, kind);
        }
        x.build(0);
        String head = "172 237 115 114 0 0 0 0 0 4 0 0 1 1 2 2 3 3 112";
        for (int kind = 0; kind < 4; kind++) {
            x.set(0, 0, kind, -2);
        }
        x.write(0);
        Check.same("-2", x.bytes(), head + " 254 255 254 255 255 255 254 255 255 255 255 255 255 255 254");
        for (int kind = 0; kind < 4; kind++) {
            x.set(0, 0, kind, 0x0102030405060708L);
        }
        x.write(0);
        Check.same("bytes 1 to 8", x.bytes(), head + " 8 7 8 5 6 7 8 1 2 3 4 5 6 7 8");
        long[] least = {-128, -32768, Integer.MIN_VALUE, Long.MIN_VALUE};
        for (int kind = 0; kind < 4; kind++) {
            x.set(0, 0, kind, least[kind]);
        }
        x.write(0);
        Check.same("the least ones", x.bytes(), head + " 128 128 0 128 0 0 0 128 0 0 0 0 0 0 0");
    }

    private static void parentsValuesComeFirst() {
        Run x = new Run();
        int[] chain = {0, 2, 5};
        for (int k = 0; k < 3; k++) {
            x.shape(0, chain[k], k == 0 ? -1 : chain[k - 1], 0);
            x.field(0, chain[k], 1, 0);
        }
        x.build(5);
        x.set(0, 0, 1, 10);
        x.set(0, 2, 1, 12);
        x.set(0, 5, 1, 15);
        Check.same("write", x.write(0), 34);
        Check.same("stream", x.bytes(), "172 237 115 114 5 0 0 0 0 1 1 0 114 2 0 0 0 0 1 1 0 114 0 0 0 0 0 1 1 0 112 10 12 15");
    }

    private static void descriptionsAreWrittenOnce() {
        Run x = new Run();
        x.shape(0, 0, -1, 0);
        x.shape(0, 1, 0, 0);
        x.shape(0, 2, 0, 0);
        x.build(1);
        x.build(2);
        x.build(1);
        x.build(0);
        x.row(5);
        for (int k = 0; k < 4; k++) {
            x.link(4, k, k);
        }
        Check.same("write", x.write(4), 40);
        // handles: the row 0, shape 1 1, shape 0 2, thing 0 3, shape 2 4, thing 1 5, thing 2 6, thing 3 7
        Check.same("stream", x.bytes(), "172 237 117 5 115 114 1 0 0 0 0 0 114 0 0 0 0 0 0 112"
            + " 115 114 2 0 0 0 0 0 113 0 2 115 113 0 1 115 113 0 2 112");
    }

    /** Six descriptions have the handles 0 to 5, the record that holds itself has 6. */
    private static void handlesCountDescriptionsAndThings() {
        Run x = new Run();
        for (int shape = 0; shape < 6; shape++) {
            x.shape(0, shape, shape - 1, 0);
        }
        x.field(0, 5, 0, 4);
        x.build(5);
        x.set(0, 5, 0, 0);
        Check.same("write", x.write(0), 2 + 1 + 6 * 7 + 2 + 1 + 3);
        Check.same("its tag", x.at(48), 113);
        Check.same("its higher byte", x.at(49), 0);
        Check.same("its handle", x.at(50), 6);
    }

    private static void longestChainOfThings() {
        Run rows = new Run();
        for (int k = 0; k < 24; k++) {
            rows.row(1);
        }
        for (int k = 0; k < 24; k++) {
            rows.link(k, 0, (k + 1) % 24);
        }
        Check.same("write", rows.write(7), 2 + 24 * 2 + 3);
        Check.same("its last tag", rows.at(50), 113);
        Check.same("its last handle", rows.at(52), 0);
        Run mixed = Made.full();
        for (int k = 0; k < 24; k += 2) {
            mixed.link(k, 0, k + 1);
            mixed.set(k + 1, 0, 0, (k + 2) % 24);
        }
        // the first record tells its description, the others name its handle
        Check.same("write", mixed.write(0), 2 + 12 * 2 + 1 + 10 + 11 * 4 + 3);
        Check.same("its last handle", mixed.at(83), 0);
        mixed.set(23, 0, 0, 23);
        mixed.write(0);
        Check.same("the highest handle", mixed.at(83), 24);
    }
}
