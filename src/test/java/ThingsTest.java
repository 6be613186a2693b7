/** Promises 4 (build), 5 (row), 6 (set), 7 (link), 9 (clear), 16 (things), 17 (thing), 18 (get), 19 (goes). */
public final class ThingsTest {
    private static final int[] WRONG_INDEXES = {-1, 24, 40, Integer.MIN_VALUE, Integer.MAX_VALUE};

    public static void main(String[] args) {
        buildAndRowNumberThings();
        thereAreAtMost24();
        newThingsAreEmpty();
        numbersAreCut();
        setFindsTheFieldInTheChain();
        setLinks();
        linkOfRows();
        clearBeginsAnew();
        questionsAboutWhatIsNotThere();
        Check.done();
    }

    private static ThingStream withChain() {
        ThingStream x = new ThingStream();
        x.shape(0, 1, -1, 10);
        x.field(0, 1, 3, 2);
        x.field(0, 1, 4, 4);
        x.shape(0, 2, -1, 20);
        x.field(0, 2, 3, 0);
        x.shape(0, 4, 1, 40);
        x.field(0, 4, 3, 1);
        x.field(0, 4, 0, 4);
        x.field(0, 4, 9, 3);
        return x;
    }

    private static void buildAndRowNumberThings() {
        ThingStream x = withChain();
        Check.same("no shape 0", x.build(0), -1);
        Check.same("no shape -1", x.build(-1), -1);
        Check.same("no shape 6", x.build(6), -1);
        Check.same("lowest shape", x.build(Integer.MIN_VALUE), -1);
        Check.same("row(-1)", x.row(-1), -1);
        Check.same("row(6)", x.row(6), -1);
        Check.same("highest row", x.row(Integer.MAX_VALUE), -1);
        Check.same("things before", x.things(0), 0);
        Check.same("build", x.build(4), 0);
        Check.same("row(0)", x.row(0), 1);
        Check.same("row(5)", x.row(5), 2);
        Check.same("build", x.build(2), 3);
        Check.same("things behind", x.things(0), 4);
        Check.same("shape of 0", x.thing(0, 0, 0), 4);
        Check.same("length of 0", x.thing(0, 0, 1), -1);
        Check.same("shape of 1", x.thing(0, 1, 0), -1);
        Check.same("length of 1", x.thing(0, 1, 1), 0);
        Check.same("length of 2", x.thing(0, 2, 1), 5);
        Check.same("shape of 3", x.thing(0, 3, 0), 2);
        x.shape(1, 0, -1, 0);
        Check.same("a shape of side 1 alone", x.build(0), -1);
    }

    private static void thereAreAtMost24() {
        ThingStream x = withChain();
        for (int k = 0; k < 24; k++) {
            Check.same("thing " + k, k % 2 == 0 ? x.row(k % 6) : x.build(4), k);
        }
        Check.same("25th row", x.row(0), -1);
        Check.same("25th record", x.build(4), -1);
        Check.same("things", x.things(0), 24);
        Check.yes("link to the last one", x.link(2, 0, 23));
        Check.no("link behind the last one", x.link(2, 0, 24));
        Check.yes("set to the last one", x.set(23, 4, 0, 23));
        Check.same("the last one's link", x.get(0, 23, 4, 0), 23);
    }

    private static void newThingsAreEmpty() {
        ThingStream x = withChain();
        for (int round = 0; round < 2; round++) {
            x.build(4);
            x.row(5);
            Check.same("new number", x.get(0, 0, 4, 3), 0);
            Check.same("new long number", x.get(0, 0, 4, 9), 0);
            Check.same("new link", x.get(0, 0, 4, 0), -1);
            Check.same("the parent's number", x.get(0, 0, 1, 3), 0);
            Check.same("the parent's link", x.get(0, 0, 1, 4), -1);
            for (int k = 0; k < 5; k++) {
                Check.same("new link of a row", x.goes(0, 1, k), -1);
                x.link(1, k, 0);
            }
            x.set(0, 4, 3, 5);
            x.set(0, 4, 9, 5);
            x.set(0, 4, 0, 1);
            x.set(0, 1, 3, 5);
            x.set(0, 1, 4, 1);
            // What the first round has set must not show in the second one.
            x.clear();
        }
    }

    private static void numbersAreCut() {
        ThingStream x = new ThingStream();
        x.shape(0, 0, -1, 0);
        for (int kind = 0; kind < 4; kind++) {
            x.field(0, 0, kind, kind);
        }
        x.build(0);
        long[] values = {0, 1, -1, 127, 128, -128, -129, 255, 256, 32767, 32768, -32769, 65535, 2147483647L, 2147483648L,
            -2147483649L, 4294967295L, 4294967296L, Long.MAX_VALUE, Long.MIN_VALUE, 0x123456789abcdef0L};
        for (long value : values) {
            for (int kind = 0; kind < 4; kind++) {
                Check.yes("set", x.set(0, 0, kind, value));
            }
            Check.same("one byte of " + value, x.get(0, 0, 0, 0), (byte) value);
            Check.same("two bytes of " + value, x.get(0, 0, 0, 1), (short) value);
            Check.same("four bytes of " + value, x.get(0, 0, 0, 2), (int) value);
            Check.same("eight bytes of " + value, x.get(0, 0, 0, 3), value);
        }
    }

    private static void setFindsTheFieldInTheChain() {
        ThingStream x = withChain();
        x.build(4);
        x.build(1);
        x.row(3);
        Check.yes("own field", x.set(0, 4, 3, 300));
        Check.yes("the parent's field of the same name", x.set(0, 1, 3, 70000));
        Check.same("own value", x.get(0, 0, 4, 3), 300);
        Check.same("the parent's value", x.get(0, 0, 1, 3), 70000);
        Check.same("another record's value", x.get(0, 1, 1, 3), 0);
        Check.no("a shape out of the chain", x.set(0, 2, 3, 1));
        Check.no("a shape that is below the parent", x.set(1, 4, 3, 1));
        Check.no("a shape that is not there", x.set(0, 0, 3, 1));
        Check.no("no such shape", x.set(0, -1, 3, 1));
        Check.no("no such shape", x.set(0, 6, 3, 1));
        Check.no("no such name", x.set(0, 4, 4, 1));
        Check.no("no such name", x.set(0, 4, -1, 1));
        Check.no("no such name", x.set(0, 4, 10, 1));
        Check.no("a row", x.set(2, 4, 3, 1));
        Check.no("a row", x.set(2, -1, 3, 1));
        Check.no("no such thing", x.set(3, 4, 3, 1));
        Check.no("no such thing", x.set(-1, 4, 3, 1));
    }

    private static void setLinks() {
        ThingStream x = withChain();
        x.build(4);
        x.row(1);
        Check.yes("link to a row", x.set(0, 4, 0, 1));
        Check.same("get", x.get(0, 0, 4, 0), 1);
        long[] wrong = {2, -2, 4294967296L, 4294967297L, Long.MIN_VALUE, Long.MAX_VALUE, -4294967297L};
        for (long to : wrong) {
            Check.no("link to " + to, x.set(0, 4, 0, to));
        }
        Check.same("the link stays", x.get(0, 0, 4, 0), 1);
        Check.yes("link to itself", x.set(0, 4, 0, 0));
        Check.same("get", x.get(0, 0, 4, 0), 0);
        Check.yes("link to none", x.set(0, 4, 0, -1));
        Check.same("get", x.get(0, 0, 4, 0), -1);
    }

    private static void linkOfRows() {
        ThingStream x = withChain();
        x.row(3);
        x.build(4);
        x.row(0);
        Check.yes("link", x.link(0, 0, 1));
        Check.yes("the last link", x.link(0, 2, 0));
        Check.same("goes", x.goes(0, 0, 0), 1);
        Check.same("goes to none", x.goes(0, 0, 1), -1);
        Check.same("goes to itself", x.goes(0, 0, 2), 0);
        Check.no("no such link", x.link(0, 3, 0));
        Check.no("no such link", x.link(0, -1, 0));
        Check.no("no such link", x.link(2, 0, 0));
        Check.no("a record", x.link(1, 0, 0));
        Check.no("no such row", x.link(3, 0, 0));
        Check.no("no such row", x.link(-1, 0, 0));
        Check.no("no such thing", x.link(0, 0, 3));
        Check.no("no such thing", x.link(0, 0, -2));
        Check.same("the link stays", x.goes(0, 0, 0), 1);
        Check.yes("link to none", x.link(0, 0, -1));
        Check.same("goes", x.goes(0, 0, 0), -1);
    }

    private static void clearBeginsAnew() {
        ThingStream x = withChain();
        x.row(2);
        x.row(1);
        x.link(0, 1, 1);
        x.write(0);
        Check.reads("two rows", x, "2 at -1");
        String before = Check.bytes(x);
        x.clear();
        Check.same("things of side 0", x.things(0), 0);
        Check.same("things of side 1", x.things(1), 2);
        Check.same("goes of side 1", x.goes(1, 0, 1), 1);
        Check.same("the stream", Check.bytes(x), before);
        Check.same("no thing", x.thing(0, 0, 0), -2);
        Check.same("write", x.write(0), -1);
        Check.same("numbers from 0 on", x.build(4), 0);
        Check.same("shapes stay", x.thing(0, 0, 0), 4);
    }

    private static void questionsAboutWhatIsNotThere() {
        ThingStream x = withChain();
        x.build(4);
        x.row(2);
        x.set(0, 4, 3, 77);
        int[] wrongSides = {-1, 2, Integer.MIN_VALUE, Integer.MAX_VALUE};
        for (int side : wrongSides) {
            Check.same("things of side " + side, x.things(side), -1);
            Check.same("thing of side " + side, x.thing(side, 0, 0), -2);
            Check.same("get of side " + side, x.get(side, 0, 4, 3), 0);
            Check.same("goes of side " + side, x.goes(side, 1, 0), -2);
        }
        Check.same("things of side 1", x.things(1), 0);
        Check.same("thing of side 1", x.thing(1, 0, 0), -2);
        Check.same("get of side 1", x.get(1, 0, 4, 3), 0);
        Check.same("goes of side 1", x.goes(1, 1, 0), -2);
        for (int k : WRONG_INDEXES) {
            Check.same("thing " + k, x.thing(0, k, 0), -2);
            Check.same("get of " + k, x.get(0, k, 4, 3), 0);
            Check.same("get of shape " + k, x.get(0, 0, k, 3), 0);
            Check.same("get of name " + k, x.get(0, 0, 4, k), 0);
            Check.same("goes of " + k, x.goes(0, k, 0), -2);
            Check.same("goes by " + k, x.goes(0, 1, k), -2);
            Check.same("what " + k, x.thing(0, 0, k), -2);
        }
        Check.same("what 2", x.thing(0, 0, 2), -2);
        Check.same("thing 2", x.thing(0, 2, 0), -2);
        Check.same("goes of a record", x.goes(0, 0, 0), -2);
        Check.same("goes by 2", x.goes(0, 1, 2), -2);
        Check.same("get of a row", x.get(0, 1, 4, 3), 0);
        Check.same("get out of the chain", x.get(0, 0, 2, 3), 0);
    }
}
