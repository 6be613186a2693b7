/** Promise 2: shape. */
public final class ShapeTest {
    public static void main(String[] args) {
        sidesAre0And1();
        shapesAre0To5();
        parentsAreBelow();
        thingsOfSide0KeepItsShapes();
        thingsOfSide0DoNotKeepSide1();
        standsInPlaceOfAnotherOnSide0();
        standsInPlaceOfAnotherOnSide1();
        othersStay();
        takesTheThingsOfSide1Alone();
        parentMayComeLater();
        chainEndsWhereAParentIsNotThere();
        marksAreInts();
        Check.done();
    }

    private static void sidesAre0And1() {
        for (int side : Made.WRONG_SIDES) {
            Check.refused("shape of side " + side, Made.cleared(), t -> t.shape(side, 1, -1, 3));
        }
        Check.yes("shape of side 0", Made.cleared().shape(0, 1, -1, 3));
        Check.yes("shape of side 1", Made.cleared().shape(1, 1, -1, 3));
    }

    private static void shapesAre0To5() {
        for (int k = 0; k <= 1; k++) {
            int side = k;
            for (int shape : Made.WRONG_SHAPES) {
                Check.refused("shape " + shape + " of side " + side, Made.cleared(), t -> t.shape(side, shape, -1, 3));
            }
            for (int shape = 0; shape <= 5; shape++) {
                Check.yes("shape " + shape + " of side " + side, Made.cleared().shape(side, shape, -1, 3));
            }
        }
    }

    private static void parentsAreBelow() {
        for (int k = 0; k < 12; k++) {
            int side = k % 2;
            int shape = k / 2;
            String what = "shape " + shape + " of side " + side + " with parent ";
            for (int parent = -1; parent < shape; parent++) {
                Check.yes(what + parent, new Run().shape(side, shape, parent, 3));
            }
            int[] wrong = {-2, shape, shape + 1, 5, 6, Integer.MIN_VALUE, Integer.MAX_VALUE};
            for (int parent : wrong) {
                if (parent < -1 || parent >= shape) {
                    Check.refused(what + parent, Made.cleared(), t -> t.shape(side, shape, parent, 3));
                }
            }
        }
    }

    private static void thingsOfSide0KeepItsShapes() {
        Run row = new Run();
        Check.yes("shape without things", row.shape(0, 0, -1, 1));
        row.row(0);
        Check.refused("the same shape while there is a row", row, t -> t.shape(0, 0, -1, 2));
        Check.refused("another shape while there is a row", row, t -> t.shape(0, 3, -1, 2));
        row.clear();
        Check.yes("shape behind clear", row.shape(0, 3, -1, 2));
        row.build(3);
        Check.refused("shape while there is a record", row, t -> t.shape(0, 3, -1, 4));
        Check.refused("shape while there are 24", Made.full(), t -> t.shape(0, 0, -1, 4));
    }

    private static void thingsOfSide0DoNotKeepSide1() {
        Run x = Made.full();
        Check.yes("shape of side 1", x.shape(1, 0, -1, 4));
        x.fill(172, 237, 115, 114, 0, 0, 0, 0, 4, 0, 112);
        Check.reads("a record of it", x, "1 at -1");
    }

    private static void standsInPlaceOfAnotherOnSide0() {
        Run x = Made.cleared();
        Check.yes("shape again", x.shape(0, 4, 2, 7));
        Check.yes("a name of the shape before, of another kind", x.field(0, 4, 9, 1));
        x.build(4);
        Check.no("a number of the shape before", x.set(0, 4, 3, 1));
        Check.no("a link of the shape before", x.set(0, 4, 0, -1));
        Check.no("a field of the parent before", x.set(0, 1, 3, 1));
        Check.yes("a field of the parent now", x.set(0, 2, 5, 1));
        Check.same("write", x.write(0), 25);
        Check.same("stream", x.bytes(), "172 237 115 114 4 0 0 0 7 1 9 1 114 2 0 0 0 20 1 5 0 112 1 0 0");
    }

    private static void standsInPlaceOfAnotherOnSide1() {
        Run x = Made.busy();
        Check.yes("shape again", x.shape(1, 4, -1, 41));
        x.cut(59);
        Check.reads("the mark of the shape before", x, "strange at 3");
        x.put(8, 41);
        Check.reads("the mark of now", x, "4 at -1");
        Check.same("a field of the shape before", x.get(1, 0, 4, 3), 0);
        Check.same("a field of the parent before", x.get(1, 0, 1, 3), 0);
        Check.same("the same field of a record of that shape", x.get(1, 1, 1, 3), -7);
        Check.yes("a name of the shape before, of another kind", x.field(1, 4, 9, 0));
        Check.reads("a field of another kind", x, "strange at 3");
    }

    private static void othersStay() {
        Run x = Made.cleared();
        String before = State.shapesOfSide1(x);
        x.shape(0, 1, 0, 9);
        Check.same("side 1's shapes behind one of side 0", State.shapesOfSide1(x), before);
        x = Made.cleared();
        before = State.shapesOfSide0(x);
        x.shape(1, 1, 0, 9);
        Check.same("side 0's shapes behind one of side 1", State.shapesOfSide0(x), before);
        x = new Run();
        x.shape(0, 1, -1, 1);
        x.field(0, 1, 2, 0);
        x.shape(0, 2, -1, 2);
        x.shape(0, 0, -1, 3);
        x.build(1);
        x.write(0);
        Check.same("a shape beside", x.bytes(), "172 237 115 114 1 0 0 0 1 1 2 0 112 0");
    }

    private static void takesTheThingsOfSide1Alone() {
        Run x = Made.cleared();
        String before = State.things(x, 1);
        x.shape(0, 1, -1, 3);
        x.shape(0, 5, 1, 3);
        Check.same("side 1's things behind a shape of side 0", State.things(x, 1), before);
        for (int shape = 0; shape <= 5; shape++) {
            Run y = Made.busy();
            String side0 = State.things(y, 0) + State.shapesOfSide0(y) + State.limits(y) + y.bytes();
            Check.yes("shape " + shape + " of side 1", y.shape(1, shape, -1, 3));
            Check.same("side 1's things", y.things(1), 0);
            Check.same("side 1's first thing", y.thing(1, 0, 0), -2);
            Check.same("its field", y.get(1, 0, 4, 3), 0);
            Check.same("its row", y.goes(1, 2, 0), -2);
            Check.same("all else", State.things(y, 0) + State.shapesOfSide0(y) + State.limits(y) + y.bytes(), side0);
        }
    }

    private static void parentMayComeLater() {
        Run x = new Run();
        x.shape(0, 5, 3, 0);
        x.build(5);
        x.write(0);
        Check.same("a parent that is not there", x.bytes(), "172 237 115 114 5 0 0 0 0 0 112");
        x.clear();
        x.shape(0, 3, -1, 0);
        x.build(5);
        x.write(0);
        Check.same("a parent that is there by then", x.bytes(), "172 237 115 114 5 0 0 0 0 0 114 3 0 0 0 0 0 112");
    }

    private static void chainEndsWhereAParentIsNotThere() {
        Run x = new Run();
        x.shape(0, 5, 3, 0);
        x.shape(0, 3, 2, 0);
        x.shape(0, 1, -1, 0);
        x.field(0, 1, 0, 0);
        x.field(0, 3, 0, 0);
        x.build(5);
        Check.yes("the parent's field", x.set(0, 3, 0, 1));
        Check.refused("a field behind the gap", x, t -> t.set(0, 1, 0, 1));
        Check.same("write", x.write(0), 21);
        Check.same("stream", x.bytes(), "172 237 115 114 5 0 0 0 0 0 114 3 0 0 0 0 1 0 0 112 1");
    }

    private static void marksAreInts() {
        int[] marks = {0, 1, -1, 127, 128, 255, 256, Integer.MIN_VALUE, Integer.MAX_VALUE};
        for (int mark : marks) {
            Run x = new Run();
            x.shape(0, 2, -1, mark);
            x.shape(1, 2, -1, mark);
            x.build(2);
            x.write(0);
            String bytes = (mark >>> 24) + " " + (mark >> 16 & 255) + " " + (mark >> 8 & 255) + " " + (mark & 255);
            Check.same("mark " + mark, x.bytes(), "172 237 115 114 2 " + bytes + " 0 112");
            Check.reads("mark " + mark, x, "1 at -1");
            x.shape(1, 2, -1, mark + 1);
            Check.reads("mark " + mark + " by the next one", x, "strange at 3");
            x.shape(1, 2, -1, mark - 1);
            Check.reads("mark " + mark + " by the one before", x, "strange at 3");
        }
    }
}
