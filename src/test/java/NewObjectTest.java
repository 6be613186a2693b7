/** Promise 1: a new object. */
public final class NewObjectTest {
    public static void main(String[] args) {
        hasNoShapes();
        hasNoThings();
        hasAnEmptyStream();
        reads1000Bytes();
        readsRowsOf5();
        reads40Things();
        reads10Deep();
        isNotChangedByOthers();
        Check.done();
    }

    private static void hasNoShapes() {
        for (int shape = 0; shape <= 5; shape++) {
            Run x = new Run();
            int number = shape;
            Check.leaves("build of " + shape, x, -1, t -> t.build(number));
            Check.refused("field of side 0's " + shape, x, t -> t.field(0, number, 0, 0));
            Check.refused("field of side 1's " + shape, x, t -> t.field(1, number, 0, 0));
            x.fill(172, 237, 115, 114, shape, 0, 0, 0, 0, 0, 112);
            Check.reads("a record of shape " + shape, x, "strange at 3");
        }
    }

    private static void hasNoThings() {
        Run x = new Run();
        for (int side = 0; side <= 1; side++) {
            Check.same("things of side " + side, x.things(side), 0);
            Check.same("thing of side " + side, x.thing(side, 0, 0), -2);
            Check.same("get of side " + side, x.get(side, 0, 0, 0), 0);
            Check.same("goes of side " + side, x.goes(side, 0, 0), -2);
        }
        Check.leaves("write(0)", x, -1, t -> t.write(0));
        Check.refused("set", x, t -> t.set(0, 0, 0, 0));
        Check.refused("link", x, t -> t.link(0, 0, 0));
        Check.same("the first number", x.row(0), 0);
    }

    private static void hasAnEmptyStream() {
        Run x = new Run();
        Check.same("how many bytes", x.at(-1), 0);
        Check.same("at(0)", x.at(0), -1);
        Check.same("position", x.position(), -1);
        Check.refused("cut(1)", x, t -> t.cut(1));
        Check.refused("put(1)", x, t -> t.put(1, 0));
        Check.yes("cut(0)", x.cut(0));
        Check.reads("nothing", x, "wrong at 0");
        Check.yes("put(0)", x.put(0, 1));
    }

    private static void reads1000Bytes() {
        Run x = new Run();
        Made.bigShapes(x, 1);
        Made.for999Bytes(x);
        x.link(5, 4, x.row(0));
        Check.same("write", x.write(0), 1000);
        Check.reads("1000 bytes", x, "11 at -1");
    }

    private static void readsRowsOf5() {
        Check.reads("a row of 5", Run.of(Made.rowOf(5)), "1 at -1");
        Check.reads("a row of 6", Run.of(Made.rowOf(6)), "wrong at 3");
    }

    private static void reads40Things() {
        Check.reads("39 things", Run.of(Made.rows(39)), "39 at -1");
        Check.reads("40 things", Run.of(Made.rows(40)), "40 at -1");
        Check.reads("41 things", Run.of(Made.rows(41)), "filtered at 82");
    }

    private static void reads10Deep() {
        Check.reads("9 deep", Run.of(Made.deepRows(9)), "9 at -1");
        Check.reads("10 deep", Run.of(Made.deepRows(10)), "10 at -1");
        Check.reads("11 deep", Run.of(Made.deepRows(11)), "filtered at 22");
    }

    private static void isNotChangedByOthers() {
        String before = State.of(new Run());
        Made.busy();
        Check.same("a new object behind a busy one", State.of(new Run()), before);
    }
}
