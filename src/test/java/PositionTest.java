/** Promise 15: position; where each fault is found is in WrongTest, StrangeTest and FilteredTest. */
public final class PositionTest {
    public static void main(String[] args) {
        noneAtFirst();
        noneBehindWhatIsRight();
        ofTheLatestRead();
        staysBehindOtherCalls();
        behindTheLastByte();
        ofAHandlesFirstByte();
        ofAFieldsKind();
        ofWhatIsStrange();
        ofWhatIsFiltered();
        Check.done();
    }

    private static void noneAtFirst() {
        Check.leaves("position of a new object", new Run(), -1, t -> t.position());
        Run x = new Run();
        x.row(0);
        x.write(0);
        Check.leaves("position before a read", x, -1, t -> t.position());
    }

    private static void noneBehindWhatIsRight() {
        Run x = Run.of(172, 237, 112);
        Check.reads("what is right", x, "0 at -1");
        Check.leaves("position", x, -1, t -> t.position());
    }

    private static void ofTheLatestRead() {
        Run x = Made.shaped(172, 237, 1);
        Check.reads("wrong", x, "wrong at 2");
        Check.reads("wrong again", x, "wrong at 2");
        x.put(1, 1);
        Check.reads("wrong elsewhere", x, "wrong at 1");
        x.fill(172, 237, 115, 114, 4, 0, 0, 0, 0, 0, 112);
        Check.reads("strange", x, "strange at 3");
        x.limit(2, 0);
        Check.reads("filtered", x, "filtered at 2");
        x.limit(0, 0);
        Check.reads("filtered by bytes", x, "filtered at 0");
        x.limit(0, 1000);
        x.fill(172, 237, 112);
        Check.reads("right", x, "0 at -1");
        x.cut(2);
        Check.reads("wrong behind what was right", x, "wrong at 2");
    }

    private static void staysBehindOtherCalls() {
        Run x = Made.busy();
        Check.leaves("position", x, 59, t -> t.position());
        Check.leaves("position again", x, 59, t -> t.position());
        x.put(59, 1);
        Check.same("behind put", x.position(), 59);
        x.cut(3);
        Check.same("behind cut", x.position(), 59);
        x.write(3);
        Check.same("behind write", x.position(), 59);
        x.clear();
        Check.same("behind clear", x.position(), 59);
        x.shape(0, 0, -1, 0);
        x.shape(1, 0, -1, 0);
        x.field(1, 0, 0, 0);
        Check.same("behind shape and field", x.position(), 59);
        x.build(0);
        x.row(1);
        x.link(1, 0, 0);
        Check.same("behind build, row and link", x.position(), 59);
        x.limit(0, 1000);
        Check.same("behind limit", x.position(), 59);
        Check.reads("what is right", x, "1 at -1");
    }

    private static void behindTheLastByte() {
        Check.reads("nothing", Run.of(), "wrong at 0");
        Check.reads("one byte", Run.of(172), "wrong at 1");
        Check.reads("two bytes", Run.of(172, 237), "wrong at 2");
        Check.reads("a handle of one byte", Run.of(172, 237, 117, 1, 113, 9), "wrong at 6");
        Run x = new Run();
        Made.bigShapes(x, 1);
        Made.for999Bytes(x);
        x.write(0);
        x.put(998, 117);
        Check.reads("999 bytes, and no length", x, "wrong at 999");
        x.append(1);
        Check.reads("1000 bytes, and no link", x, "wrong at 1000");
    }

    private static void ofAHandlesFirstByte() {
        Check.reads("a thing's", Run.of(172, 237, 117, 1, 113, 0, 1), "wrong at 5");
        Check.reads("a description's", Run.of(172, 237, 115, 113, 0, 1), "wrong at 4");
    }

    private static void ofAFieldsKind() {
        Check.reads("for the order", Run.of(172, 237, 115, 114, 3, 0, 0, 0, 9, 2, 1, 0, 0, 0, 112), "wrong at 13");
        Check.reads("for a name that was there", Run.of(172, 237, 115, 114, 3, 0, 0, 0, 9, 2, 1, 0, 1, 4, 112), "wrong at 13");
        Check.reads("for a kind", Run.of(172, 237, 115, 114, 3, 0, 0, 0, 9, 2, 1, 0, 2, 5, 112), "wrong at 13");
        Check.reads("not for a name", Run.of(172, 237, 115, 114, 3, 0, 0, 0, 9, 2, 1, 0, 10, 5, 112), "wrong at 12");
    }

    private static void ofWhatIsStrange() {
        Run x = Made.shaped(172, 237, 117, 2, 115, 114, 3, 0, 0, 0, 9, 0, 114, 1, 0, 0, 0, 0, 0, 112, 115, 113, 0, 2);
        Check.reads("of 113", x, "strange at 21");
        x.put(10, 8);
        Check.reads("of 114", x, "strange at 5");
        x.shape(1, 1, -1, 1);
        Check.reads("of the parent's 114", x, "strange at 12");
    }

    private static void ofWhatIsFiltered() {
        Run x = Made.shaped(172, 237, 117, 2, 117, 3, 112, 112, 112, 115, 114, 3, 0, 0, 0, 9, 0, 112);
        x.limit(2, 2);
        Check.reads("of 115, by things", x, "filtered at 9");
        x.limit(3, 1);
        Check.reads("of 117, by depth", x, "filtered at 4");
        x.limit(3, 10);
        x.limit(1, 2);
        Check.reads("of a length", x, "filtered at 5");
        x.limit(0, 17);
        Check.reads("of all, by bytes", x, "filtered at 0");
    }
}
