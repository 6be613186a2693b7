/** Promises 8 (write), 10 (at), 11 (put) and 12 (cut). */
public final class WriteTest {
    public static void main(String[] args) {
        newStreamIsEmpty();
        writesRowsByHandle();
        writesFieldsInOrder();
        writesParentsFirst();
        writesDescriptionsOnce();
        writesWhatIsNotThere();
        writesUpTo1000Bytes();
        everyFieldHasItsOwnValue();
        writesFarMoreThan1000Bytes();
        writesTheLongestChain();
        putsAndCuts();
        Check.done();
    }

    private static void newStreamIsEmpty() {
        ThingStream x = new ThingStream();
        Check.same("how many bytes", x.at(-1), 0);
        Check.same("at(0)", x.at(0), -1);
        Check.no("cut(1)", x.cut(1));
        Check.yes("cut(0)", x.cut(0));
    }

    private static void writesRowsByHandle() {
        ThingStream x = new ThingStream();
        x.row(2);
        x.row(3);
        x.link(0, 0, 1);
        x.link(0, 1, 1);
        x.link(1, 0, 0);
        x.link(1, 2, 1);
        Check.same("write(0)", x.write(0), 16);
        Check.same("stream", Check.bytes(x), "172 237 117 2 117 3 113 0 0 112 113 0 1 113 0 1");
        Check.same("write(1)", x.write(1), 16);
        Check.same("stream", Check.bytes(x), "172 237 117 3 117 2 113 0 0 113 0 0 112 113 0 0");
    }

    private static void writesFieldsInOrder() {
        ThingStream x = new ThingStream();
        x.shape(0, 3, -1, 0x01020384);
        x.field(0, 3, 2, 4);
        x.field(0, 3, 9, 1);
        x.field(0, 3, 0, 4);
        x.field(0, 3, 4, 3);
        x.build(3);
        x.set(0, 3, 9, 0x89ab);
        x.set(0, 3, 4, 0xf123456789abcdefL);
        x.set(0, 3, 2, 0);
        Check.same("write", x.write(0), 33);
        Check.same("stream", Check.bytes(x), "172 237 115 114 3 1 2 3 132 4 4 3 9 1 0 4 2 4 112"
            + " 241 35 69 103 137 171 205 239 137 171 112 113 0 1");
    }

    private static void writesParentsFirst() {
        ThingStream x = new ThingStream();
        x.shape(0, 0, -1, 0);
        x.field(0, 0, 1, 0);
        x.shape(0, 2, 0, 0);
        x.field(0, 2, 1, 0);
        x.shape(0, 5, 2, 0);
        x.field(0, 5, 1, 0);
        x.build(5);
        x.set(0, 0, 1, 10);
        x.set(0, 2, 1, 12);
        x.set(0, 5, 1, 15);
        Check.same("write", x.write(0), 34);
        Check.same("stream", Check.bytes(x), "172 237 115 114 5 0 0 0 0 1 1 0 114 2 0 0 0 0 1 1 0 114 0 0 0 0 0 1 1 0 112 10 12 15");
    }

    private static void writesDescriptionsOnce() {
        ThingStream x = new ThingStream();
        x.shape(0, 0, -1, 0);
        x.shape(0, 1, 0, 0);
        x.shape(0, 2, 0, 0);
        x.build(1);
        x.build(2);
        x.build(1);
        x.build(0);
        x.row(5);
        for (int k = 0; k < 4; k++) {
            x.link(4, k, k);
        }
        Check.same("write", x.write(4), 40);
        // handles: the row 0, shape 1 1, shape 0 2, thing 0 3, shape 2 4, thing 1 5, thing 2 6, thing 3 7
        Check.same("stream", Check.bytes(x), "172 237 117 5 115 114 1 0 0 0 0 0 114 0 0 0 0 0 0 112"
            + " 115 114 2 0 0 0 0 0 113 0 2 115 113 0 1 115 113 0 2 112");
    }

    private static void writesWhatIsNotThere() {
        ThingStream x = new ThingStream();
        x.row(0);
        Check.same("write(0)", x.write(0), 4);
        int[] wrong = {-1, 1, 24, Integer.MIN_VALUE, Integer.MAX_VALUE};
        for (int thing : wrong) {
            Check.same("write " + thing, x.write(thing), -1);
            Check.same("the stream stays", Check.bytes(x), "172 237 117 0");
        }
    }

    /** Six shapes on both sides, each the parent of the next one, each with four fields of 8 bytes. */
    private static ThingStream withBigShapes() {
        ThingStream x = new ThingStream();
        for (int shape = 0; shape < 6; shape++) {
            x.shape(0, shape, shape - 1, 0);
            x.shape(1, shape, shape - 1, 0);
            for (int name = 0; name < 4; name++) {
                x.field(0, shape, name, 3);
                x.field(1, shape, name, 3);
            }
        }
        return x;
    }

    private static void writesUpTo1000Bytes() {
        ThingStream x = withBigShapes();
        x.row(5);
        for (int k = 0; k < 4; k++) {
            x.build(5);
            x.link(0, k, k + 1);
        }
        int first = 1 + 6 * 15 + 1 + 6 * 4 * 8;
        int next = 1 + 3 + 6 * 4 * 8;
        Check.same("row and four records", x.write(0), 4 + first + 3 * next + 1);
        int last = x.row(5);
        x.link(0, 4, last);
        x.link(last, 0, x.build(2));
        x.link(last, 1, x.row(5));
        x.link(last, 2, x.row(5));
        x.link(last, 3, x.row(4));
        Check.same("999 bytes", x.write(0), 999);
        x.link(last, 4, x.row(0));
        x.set(1, 5, 3, -1);
        Check.same("1000 bytes", x.write(0), 1000);
        Check.same("how many", x.at(-1), 1000);
        Check.same("the last byte", x.at(999), 0);
        Check.reads("read of 1000", x, "11 at -1");
        Check.same("a value of it", x.get(1, 1, 5, 3), -1);
        Check.same("a value beside it", x.get(1, 1, 5, 2), 0);
        int more = x.row(0);
        x.link(8, 0, more);
        Check.same("1001 bytes", x.write(0), 0);
        Check.same("the stream is empty", x.at(-1), 0);
        Check.same("no byte", x.at(0), -1);
        Check.same("a small one behind it", x.write(more), 4);
    }

    private static void everyFieldHasItsOwnValue() {
        ThingStream x = withBigShapes();
        x.build(5);
        x.build(5);
        for (int k = 0; k < 48; k++) {
            Check.yes("set", x.set(k / 24, k / 4 % 6, k % 4, 1000 + k));
        }
        for (int thing = 0; thing < 2; thing++) {
            Check.same("write", x.write(thing), 2 + 1 + 6 * 15 + 1 + 24 * 8);
            Check.reads("read", x, "1 at -1");
            for (int k = 0; k < 24; k++) {
                Check.same("value of side 0", x.get(0, thing, k / 4, k % 4), 1000 + 24 * thing + k);
                Check.same("value of side 1", x.get(1, 0, k / 4, k % 4), 1000 + 24 * thing + k);
            }
        }
    }

    private static void writesFarMoreThan1000Bytes() {
        ThingStream x = withBigShapes();
        x.row(5);
        for (int k = 1; k < 24; k++) {
            if (k % 5 == 0) {
                x.link((k - 5) / 5 * 5, 4, x.row(5));
            } else {
                x.link(k / 5 * 5, k % 5 - 1, x.build(5));
            }
        }
        Check.same("write", x.write(0), 0);
        Check.same("the stream is empty", x.at(-1), 0);
    }

    private static void writesTheLongestChain() {
        ThingStream x = new ThingStream();
        for (int k = 0; k < 24; k++) {
            x.row(1);
        }
        for (int k = 0; k < 24; k++) {
            x.link(k, 0, (k + 1) % 24);
        }
        Check.same("write", x.write(7), 2 + 24 * 2 + 3);
        Check.same("its last handle", x.at(52), 0);
        Check.same("its last tag", x.at(50), 113);
        Check.reads("too deep", x, "filtered at 22");
    }

    private static void putsAndCuts() {
        ThingStream x = new ThingStream();
        Check.no("put(1)", x.put(1, 0));
        Check.no("put(-1)", x.put(-1, 0));
        for (int k = 0; k < 1000; k++) {
            Check.yes("put " + k, x.put(k, k));
        }
        Check.no("the 1001st", x.put(1000, 0));
        Check.same("how many", x.at(-1), 1000);
        Check.same("at(999)", x.at(999), 999 & 255);
        Check.same("at(1000)", x.at(1000), -1);
        Check.same("at(-2)", x.at(-2), -1);
        Check.same("lowest at", x.at(Integer.MIN_VALUE), -1);
        Check.same("highest at", x.at(Integer.MAX_VALUE), -1);
        Check.yes("put of -1", x.put(3, -1));
        Check.same("at(3)", x.at(3), 255);
        Check.yes("put of 256", x.put(3, 256));
        Check.same("at(3)", x.at(3), 0);
        Check.yes("put of 0x7f1", x.put(999, 0x7f1));
        Check.same("at(999)", x.at(999), 0xf1);
        Check.no("cut(1001)", x.cut(1001));
        Check.no("cut(-1)", x.cut(-1));
        Check.same("how many", x.at(-1), 1000);
        Check.yes("cut(1000)", x.cut(1000));
        Check.yes("cut(5)", x.cut(5));
        Check.same("how many", x.at(-1), 5);
        Check.same("at(4)", x.at(4), 4);
        Check.same("at(5)", x.at(5), -1);
        Check.no("cut(6)", x.cut(6));
        Check.no("put(6)", x.put(6, 1));
        Check.yes("put(5)", x.put(5, 300));
        Check.same("at(5)", x.at(5), 44);
        Check.same("how many", x.at(-1), 6);
    }
}
