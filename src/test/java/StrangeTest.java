/** Promises 14 and 15: what reading finds strange, and where. */
public final class StrangeTest {
    public static void main(String[] args) {
        anotherMark();
        anotherKindOfTheSameName();
        namesOfOneSideAlone();
        recordsShapeIsNotThere();
        recordsShapeByHandleIsNotThere();
        parentsShapeMayBeAbsent();
        parentsAreStrangeFirst();
        parentsAreStrangeOutOfTheChain();
        foundWhenCompleteWithParents();
        foundBeforeTheValues();
        handlesAreNotLookedAtAgain();
        Check.done();
    }

    private static void anotherMark() {
        for (int k = 5; k <= 8; k++) {
            for (int bit = 0; bit < 8; bit++) {
                Run x = Made.shaped(172, 237, 115, 114, 3, 0, 0, 0, 9, 0, 112);
                x.put(k, x.at(k) ^ 1 << bit);
                Check.reads("another mark at " + k, x, "strange at 3");
            }
        }
        int[] marks = {8, 10};
        for (int mark : marks) {
            Check.throwsAndLeaves("mark " + mark, Made.shaped(172, 237, 115, 114, 3, 0, 0, 0, mark, 0, 112), "strange at 3");
        }
        Check.reads("mark 9", Made.shaped(172, 237, 115, 114, 3, 0, 0, 0, 9, 0, 112), "1 at -1");
    }

    private static void anotherKindOfTheSameName() {
        for (int here = 0; here < 5; here++) {
            for (int told = 0; told < 5; told++) {
                Run x = Run.of(172, 237, 115, 114, 5, 0, 0, 0, 0, 1, 6, told, 112);
                for (int k = told == 4 ? 0 : 1 << told; k > 1; k--) {
                    x.append(1);
                }
                x.append(112);
                x.shape(1, 5, -1, 0);
                x.field(1, 5, 6, here);
                Check.reads("kind " + told + " where " + here + " is", x, told == here ? "1 at -1" : "strange at 3");
            }
        }
        Check.throwsAndLeaves("a link where a number is",
            Made.shaped(172, 237, 115, 114, 3, 0, 0, 0, 9, 1, 2, 4, 112, 112), "strange at 3");
        for (int place = 0; place < 4; place++) {
            Run x = Made.shaped(172, 237, 115, 114, 5, 0, 0, 0, 0, 4, 0, 0, 1, 0, 2, 0, 3, 0, 112, 1, 1, 1, 1);
            x.shape(1, 5, -1, 0);
            for (int name = 0; name < 4; name++) {
                x.field(1, 5, name, 0);
            }
            Check.reads("four fields", x, "1 at -1");
            x.put(11 + 2 * place, 1);
            Check.throwsAndLeaves("another kind at " + place, x, "strange at 3");
        }
    }

    private static void namesOfOneSideAlone() {
        Run x = Made.shaped(172, 237, 115, 114, 3, 0, 0, 0, 9, 1, 7, 4, 112, 112);
        Check.reads("a name that side 1 has not", x, "1 at -1");
        x.fill(172, 237, 115, 114, 3, 0, 0, 0, 9, 0, 112);
        Check.reads("no names", x, "1 at -1");
        x.fill(172, 237, 115, 114, 3, 0, 0, 0, 9, 0, 114, 0, 0, 0, 0, 0, 1, 2, 3, 112, 1, 1, 1, 1, 1, 1, 1, 1);
        Check.reads("a name of another shape, of another kind", x, "1 at -1");
    }

    private static void recordsShapeIsNotThere() {
        int[] notThere = {1, 2, 4, 5};
        for (int shape : notThere) {
            Check.throwsAndLeaves("shape " + shape, Made.shaped(172, 237, 115, 114, shape, 0, 0, 0, 9, 0, 112), "strange at 3");
        }
        Check.throwsAndLeaves("in a row", Made.shaped(172, 237, 117, 2, 112, 115, 114, 4, 0, 0, 0, 9, 0, 112), "strange at 6");
        Run x = Made.shaped(172, 237, 115, 114, 4, 0, 0, 0, 9, 0, 112);
        x.shape(0, 4, -1, 9);
        Check.throwsAndLeaves("a shape of side 0 alone", x, "strange at 3");
        x.shape(1, 4, -1, 9);
        Check.reads("a shape of side 1", x, "1 at -1");
    }

    private static void recordsShapeByHandleIsNotThere() {
        int[] bytes = {172, 237, 117, 2, 115, 114, 3, 0, 0, 0, 9, 0, 114, 1, 0, 0, 0, 0, 0, 112, 115, 113, 0, 2};
        Check.throwsAndLeaves("a record of the parent's description", Made.shaped(bytes), "strange at 21");
        bytes[23] = 1;
        Check.reads("a record of the first description", Made.shaped(bytes), "3 at -1");
        bytes[23] = 3;
        Check.throwsAndLeaves("a handle that is wrong", Made.shaped(bytes), "wrong at 22");
    }

    private static void parentsShapeMayBeAbsent() {
        int[] parent = {172, 237, 115, 114, 3, 0, 0, 0, 9, 0, 114, 1, 1, 2, 3, 4, 0, 112};
        Check.reads("a parent that side 1 has not", Made.shaped(parent), "1 at -1");
        int[] byHandle = {172, 237, 117, 2, 115, 114, 3, 0, 0, 0, 9, 0, 114, 1, 0, 0, 0, 0, 0, 112,
            115, 114, 3, 0, 0, 0, 9, 0, 113, 0, 2};
        Check.reads("the same one by handle", Made.shaped(byHandle), "3 at -1");
    }

    private static void parentsAreStrangeFirst() {
        Run x = Made.shaped(172, 237, 115, 114, 3, 0, 0, 0, 8, 0, 114, 0, 0, 0, 0, 1, 0, 112);
        Check.throwsAndLeaves("both marks", x, "strange at 10");
        x.put(15, 0);
        Check.throwsAndLeaves("the first mark alone", x, "strange at 3");
        x.put(8, 9);
        Check.reads("no mark", x, "1 at -1");
        x.put(4, 4);
        Check.throwsAndLeaves("the record's shape is not there", x, "strange at 3");
        x.put(15, 1);
        Check.throwsAndLeaves("nor is the parent's mark right", x, "strange at 10");
    }

    private static void parentsAreStrangeOutOfTheChain() {
        Run x = Made.shaped(172, 237, 115, 114, 3, 0, 0, 0, 9, 0, 114, 2, 0, 0, 0, 5, 1, 6, 0, 112, 1);
        x.shape(1, 2, -1, 5);
        x.field(1, 2, 6, 0);
        Check.reads("a parent beside the chain of side 1", x, "1 at -1");
        x.put(18, 4);
        Check.throwsAndLeaves("its field has another kind", x, "strange at 10");
        x.put(18, 0);
        x.put(15, 4);
        Check.throwsAndLeaves("it has another mark", x, "strange at 10");
    }

    private static void foundWhenCompleteWithParents() {
        Run x = Made.shaped(172, 237, 115, 114, 3, 0, 0, 0, 8, 0);
        Check.throwsAndLeaves("another mark, and no parent's description", x, "wrong at 10");
        x.append(1);
        Check.throwsAndLeaves("another mark, and a parent's tag that is wrong", x, "wrong at 10");
        x.put(10, 114);
        x.append(3);
        Check.throwsAndLeaves("another mark, and a parent that is not below", x, "wrong at 11");
        x.fill(172, 237, 115, 114, 3, 0, 0, 0, 8, 0, 114, 0, 0, 0, 0, 1, 0);
        Check.throwsAndLeaves("other marks, and a parent that does not end", x, "wrong at 17");
        x.put(4, 4);
        Check.throwsAndLeaves("no shape, and a parent that does not end", x, "wrong at 17");
        x.fill(172, 237, 115, 114, 3, 0, 0, 0, 9, 2, 2, 1, 2, 4);
        Check.throwsAndLeaves("another kind, and a field that is wrong", x, "wrong at 13");
    }

    private static void foundBeforeTheValues() {
        Run x = Made.shaped(172, 237, 115, 114, 3, 0, 0, 0, 8, 1, 2, 0, 112);
        Check.throwsAndLeaves("another mark, and no value", x, "strange at 3");
        x.put(8, 9);
        Check.throwsAndLeaves("the mark, and no value", x, "wrong at 13");
        x.put(4, 4);
        Check.throwsAndLeaves("no shape, and no value", x, "strange at 3");
        x.fill(172, 237, 117, 2, 115, 114, 3, 0, 0, 0, 9, 0, 114, 1, 0, 0, 0, 0, 1, 7, 4, 112, 112, 115, 113, 0, 2);
        Check.throwsAndLeaves("no shape by handle, and no value", x, "strange at 24");
    }

    /** The second record tells nothing again: both descriptions of number 3 hold, each for its own. */
    private static void handlesAreNotLookedAtAgain() {
        Run x = Made.shaped(172, 237, 117, 4, 115, 114, 3, 0, 0, 0, 9, 1, 2, 0, 112, 5, 115, 114, 3, 0, 0, 0, 9, 1, 7, 0, 112, 6,
            115, 113, 0, 1, 7, 115, 113, 0, 3, 8);
        Check.reads("two descriptions of one number", x, "5 at -1");
        Check.same("the first one's record", x.get(1, 1, 3, 2), 5);
        Check.same("the second one's record", x.get(1, 2, 3, 2), 0);
        Check.same("the first one's record by handle", x.get(1, 3, 3, 2), 7);
        Check.same("the second one's record by handle", x.get(1, 4, 3, 2), 0);
    }
}
