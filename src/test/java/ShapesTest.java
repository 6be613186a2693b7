/** Promises 1 (shapes), 2 (shape) and 3 (field). */
public final class ShapesTest {
    private static final int[] WRONG_SIDES = {-1, 2, Integer.MIN_VALUE, Integer.MAX_VALUE};

    public static void main(String[] args) {
        newObjectHasNoShapes();
        shapeChecksItsArguments();
        shapeReplacesAnother();
        fieldChecksItsArguments();
        thingsOfSide0KeepItsShapes();
        changesOfSide1TakeItsThings();
        parentMayBeAbsent();
        Check.done();
    }

    private static void newObjectHasNoShapes() {
        ThingStream x = new ThingStream();
        for (int shape = -1; shape <= 6; shape++) {
            Check.same("build without shapes", x.build(shape), -1);
            Check.no("field on side 0 without shapes", x.field(0, shape, 0, 0));
            Check.no("field on side 1 without shapes", x.field(1, shape, 0, 0));
        }
    }

    private static void shapeChecksItsArguments() {
        ThingStream x = new ThingStream();
        for (int side : WRONG_SIDES) {
            Check.no("shape of side " + side, x.shape(side, 0, -1, 0));
        }
        int[] wrongShapes = {-1, 6, Integer.MIN_VALUE, Integer.MAX_VALUE};
        for (int shape : wrongShapes) {
            Check.no("shape " + shape, x.shape(0, shape, -1, 0));
            Check.no("shape " + shape + " of side 1", x.shape(1, shape, -1, 0));
        }
        for (int shape = 0; shape <= 5; shape++) {
            for (int parent = -3; parent <= 7; parent++) {
                boolean due = parent >= -1 && parent < shape;
                Check.same("shape " + shape + " of parent " + parent, x.shape(1, shape, parent, 0) ? 1 : 0, due ? 1 : 0);
            }
            Check.no("lowest parent", x.shape(1, shape, Integer.MIN_VALUE, 0));
            Check.no("highest parent", x.shape(1, shape, Integer.MAX_VALUE, 0));
        }
    }

    private static void shapeReplacesAnother() {
        ThingStream x = new ThingStream();
        x.shape(0, 0, -1, 1);
        x.shape(0, 1, 0, 1);
        x.field(0, 1, 7, 0);
        x.field(0, 1, 8, 4);
        Check.yes("shape again", x.shape(0, 1, -1, Integer.MIN_VALUE));
        Check.yes("a name of the shape before", x.field(0, 1, 8, 1));
        x.build(1);
        Check.no("a field of the shape before", x.set(0, 1, 7, 1));
        Check.same("write", x.write(0), 15);
        Check.same("stream", Check.bytes(x), "172 237 115 114 1 128 0 0 0 1 8 1 112 0 0");
    }

    private static void fieldChecksItsArguments() {
        ThingStream x = new ThingStream();
        x.shape(0, 5, -1, 0);
        for (int side : WRONG_SIDES) {
            Check.no("field of side " + side, x.field(side, 5, 0, 0));
        }
        Check.no("field of a shape of the other side", x.field(1, 5, 0, 0));
        int[] wrongNames = {-1, 10, Integer.MIN_VALUE, Integer.MAX_VALUE};
        for (int name : wrongNames) {
            Check.no("name " + name, x.field(0, 5, name, 0));
        }
        int[] wrongKinds = {-1, 5, Integer.MIN_VALUE, Integer.MAX_VALUE};
        for (int kind : wrongKinds) {
            Check.no("kind " + kind, x.field(0, 5, 0, kind));
        }
        Check.yes("name 9, kind 4", x.field(0, 5, 9, 4));
        Check.no("the same name", x.field(0, 5, 9, 4));
        Check.no("the same name, another kind", x.field(0, 5, 9, 0));
        Check.yes("name 0, kind 0", x.field(0, 5, 0, 0));
        Check.yes("third field", x.field(0, 5, 4, 3));
        Check.yes("fourth field", x.field(0, 5, 3, 3));
        Check.no("fifth field", x.field(0, 5, 2, 3));
        x.shape(0, 4, -1, 0);
        Check.yes("the same name in another shape", x.field(0, 4, 9, 0));
    }

    private static void thingsOfSide0KeepItsShapes() {
        ThingStream x = new ThingStream();
        x.shape(0, 0, -1, 0);
        x.row(0);
        Check.no("shape while there is a thing", x.shape(0, 0, -1, 1));
        Check.no("another shape while there is a thing", x.shape(0, 3, -1, 1));
        Check.no("field while there is a thing", x.field(0, 0, 1, 1));
        Check.yes("shape of side 1", x.shape(1, 0, -1, 1));
        Check.yes("field of side 1", x.field(1, 0, 1, 1));
        x.clear();
        Check.yes("shape behind clear", x.shape(0, 3, -1, 1));
        Check.yes("field behind clear", x.field(0, 0, 1, 1));
    }

    private static void changesOfSide1TakeItsThings() {
        ThingStream x = new ThingStream();
        x.row(0);
        x.write(0);
        Check.reads("a row", x, "1 at -1");
        Check.no("no shape", x.shape(1, 6, -1, 0));
        Check.no("no field", x.field(1, 0, 0, 0));
        Check.same("things behind what failed", x.things(1), 1);
        x.clear();
        x.shape(0, 0, -1, 0);
        x.field(0, 0, 0, 0);
        Check.same("things behind changes of side 0", x.things(1), 1);
        x.shape(1, 2, -1, 0);
        Check.same("things behind a shape", x.things(1), 0);
        Check.same("thing behind a shape", x.thing(1, 0, 0), -2);
        Check.reads("a row again", x, "1 at -1");
        x.field(1, 2, 0, 0);
        Check.same("things behind a field", x.things(1), 0);
        Check.same("the stream stays", x.at(-1), 4);
    }

    private static void parentMayBeAbsent() {
        ThingStream x = new ThingStream();
        x.shape(0, 5, 3, 0);
        x.shape(0, 3, 2, 0);
        x.shape(0, 1, -1, 0);
        x.field(0, 1, 0, 0);
        x.field(0, 3, 0, 0);
        x.build(5);
        Check.yes("the parent's field", x.set(0, 3, 0, 1));
        Check.no("a field behind the gap", x.set(0, 1, 0, 1));
        Check.same("write", x.write(0), 21);
        Check.same("stream", Check.bytes(x), "172 237 115 114 5 0 0 0 0 0 114 3 0 0 0 0 1 0 0 112 1");
    }
}
