/** Promise 3: field. */
public final class FieldTest {
    public static void main(String[] args) {
        sidesAre0And1();
        shapeMustBeThere();
        namesAre0To9();
        kindsAre0To4();
        fourFieldsAtMost();
        namesAreThereOnce();
        namesOfOtherShapesAreFree();
        thingsOfSide0KeepItsFields();
        takesTheThingsOfSide1Alone();
        Check.done();
    }

    private static void sidesAre0And1() {
        for (int side : Made.WRONG_SIDES) {
            Check.refused("field of side " + side, Made.cleared(), t -> t.field(side, 1, 0, 0));
        }
        Check.yes("field of side 0", Made.cleared().field(0, 1, 0, 0));
        Check.yes("field of side 1", Made.cleared().field(1, 1, 0, 0));
    }

    private static void shapeMustBeThere() {
        for (int k = 0; k <= 1; k++) {
            int side = k;
            for (int shape : Made.WRONG_SHAPES) {
                Check.refused("field of shape " + shape, Made.cleared(), t -> t.field(side, shape, 0, 0));
            }
            int[] notThere = {0, 3, 5};
            for (int shape : notThere) {
                Check.refused("field of shape " + shape + ", not there", Made.cleared(), t -> t.field(side, shape, 0, 0));
            }
            for (int shape = 0; shape <= 5; shape++) {
                Run x = new Run();
                x.shape(side, shape, -1, 0);
                int number = shape;
                Check.yes("field of shape " + shape, x.field(side, shape, 0, 0));
                Check.refused("field of the other side's shape", x, t -> t.field(1 - side, number, 1, 0));
            }
        }
    }

    private static void namesAre0To9() {
        for (int k = 0; k <= 1; k++) {
            int side = k;
            for (int name : Made.WRONG_NAMES) {
                Check.refused("name " + name, Made.cleared(), t -> t.field(side, 1, name, 0));
            }
        }
        for (int name = 0; name <= 9; name++) {
            Run x = new Run();
            x.shape(0, 0, -1, 0);
            Check.yes("name " + name, x.field(0, 0, name, 0));
            x.build(0);
            Check.yes("set of name " + name, x.set(0, 0, name, 5));
            x.write(0);
            Check.same("stream", x.bytes(), "172 237 115 114 0 0 0 0 0 1 " + name + " 0 112 5");
            x.shape(1, 0, -1, 0);
            Check.yes("name " + name + " of side 1", x.field(1, 0, name, 0));
            Check.reads("name " + name, x, "1 at -1");
            Check.same("get of name " + name, x.get(1, 0, 0, name), 5);
        }
    }

    private static void kindsAre0To4() {
        String[] values = {" 0", " 0 0", " 0 0 0 0", " 0 0 0 0 0 0 0 0", " 112"};
        for (int k = 0; k <= 1; k++) {
            int side = k;
            for (int kind : Made.WRONG_KINDS) {
                Check.refused("kind " + kind, Made.cleared(), t -> t.field(side, 1, 0, kind));
            }
        }
        for (int kind = 0; kind <= 4; kind++) {
            Run x = new Run();
            x.shape(0, 0, -1, 0);
            Check.yes("kind " + kind, x.field(0, 0, 7, kind));
            x.build(0);
            x.write(0);
            Check.same("stream", x.bytes(), "172 237 115 114 0 0 0 0 0 1 7 " + kind + " 112" + values[kind]);
            x.shape(1, 0, -1, 0);
            Check.yes("kind " + kind + " of side 1", x.field(1, 0, 7, kind));
            Check.reads("kind " + kind, x, "1 at -1");
        }
    }

    private static void fourFieldsAtMost() {
        for (int k = 0; k <= 1; k++) {
            int side = k;
            Run x = new Run();
            x.shape(side, 5, -1, 0);
            Check.yes("first field", x.field(side, 5, 9, 4));
            Check.yes("second field", x.field(side, 5, 0, 0));
            Check.yes("third field", x.field(side, 5, 4, 4));
            Check.yes("fourth field", x.field(side, 5, 3, 3));
            Check.refused("fifth field, a number", x, t -> t.field(side, 5, 2, 3));
            Check.refused("fifth field, a link", x, t -> t.field(side, 5, 8, 4));
            Check.refused("fifth field of a name that is there", x, t -> t.field(side, 5, 3, 3));
            x.shape(side, 4, -1, 0);
            Check.yes("a field of another shape", x.field(side, 4, 2, 3));
            x.shape(side, 5, -1, 0);
            Check.yes("a field of the shape anew", x.field(side, 5, 2, 3));
        }
    }

    private static void namesAreThereOnce() {
        for (int k = 0; k < 10; k++) {
            int side = k / 5;
            int kind = k % 5;
            Check.refused("a number's name with kind " + kind, Made.cleared(), t -> t.field(side, 1, 3, kind));
            Check.refused("a link's name with kind " + kind, Made.cleared(), t -> t.field(side, 1, 4, kind));
        }
    }

    private static void namesOfOtherShapesAreFree() {
        Run x = Made.cleared();
        Check.yes("a name of the parent", x.field(0, 4, 4, 0));
        Check.yes("a name of a shape below", x.field(0, 1, 9, 4));
        x.build(4);
        x.set(0, 4, 4, 5);
        Check.same("own value", x.get(0, 0, 4, 4), 5);
        Check.same("the parent's value", x.get(0, 0, 1, 4), -1);
    }

    private static void thingsOfSide0KeepItsFields() {
        Run x = new Run();
        x.shape(0, 0, -1, 0);
        Check.yes("field without things", x.field(0, 0, 1, 1));
        x.row(0);
        Check.refused("field while there is a row", x, t -> t.field(0, 0, 2, 1));
        Check.yes("shape of side 1", x.shape(1, 0, -1, 0));
        Check.yes("field of side 1", x.field(1, 0, 2, 1));
        x.clear();
        Check.yes("field behind clear", x.field(0, 0, 2, 1));
        x.build(0);
        Check.refused("field while there is a record", x, t -> t.field(0, 0, 3, 1));
        Check.refused("field while there are 24", Made.full(), t -> t.field(0, 0, 3, 1));
    }

    private static void takesTheThingsOfSide1Alone() {
        Run x = Made.cleared();
        String before = State.things(x, 1);
        Check.yes("field of side 0", x.field(0, 1, 0, 0));
        Check.same("side 1's things behind a field of side 0", State.things(x, 1), before);
        Run y = Made.busy();
        String side0 = State.things(y, 0) + State.shapesOfSide0(y) + State.limits(y) + y.bytes();
        Check.yes("field of side 1, of a shape without things", y.field(1, 2, 0, 0));
        Check.same("side 1's things", y.things(1), 0);
        Check.same("side 1's first thing", y.thing(1, 0, 0), -2);
        Check.same("its field", y.get(1, 0, 4, 3), 0);
        Check.same("its row", y.goes(1, 2, 0), -2);
        Check.same("all else", State.things(y, 0) + State.shapesOfSide0(y) + State.limits(y) + y.bytes(), side0);
    }
}
