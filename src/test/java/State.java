import java.util.Arrays;

/** All that can be found out about an object, as text: what its answers tell, and what copies of it do. */
final class State {
    private static final int UNUSED_MARK = 0x5a5a5a5a;

    private State() {
    }

    static String of(Run x) {
        return withoutPosition(x) + "position " + x.position();
    }

    static String withoutPosition(Run x) {
        return things(x, 0) + things(x, 1) + "stream " + x.bytes() + "\n" + shapesOfSide0(x) + shapesOfSide1(x) + limits(x);
    }

    static String things(Run x, int side) {
        StringBuilder all = new StringBuilder("things of side " + side + ":");
        for (int thing = 0; thing < x.things(side); thing++) {
            int length = x.thing(side, thing, 1);
            all.append(" (").append(x.thing(side, thing, 0)).append(' ').append(length).append(':');
            for (int k = 0; k < length; k++) {
                all.append(' ').append(x.goes(side, thing, k));
            }
            for (int k = 0; k < 60; k++) {
                long value = x.get(side, thing, k / 10, k % 10);
                all.append(value == 0 ? "" : " " + k / 10 + "." + k % 10 + "=" + value);
            }
            all.append(')');
        }
        return all.append('\n').toString();
    }

    /** Parents that are not there show, too: they are made, and are then in the chain. */
    static String shapesOfSide0(Run x) {
        Run copy = x.copy();
        copy.clear();
        StringBuilder all = new StringBuilder("shapes of side 0:");
        boolean[] there = new boolean[6];
        for (int shape = 0; shape < 6; shape++) {
            there[shape] = copy.build(shape) != -1;
            all.append(there[shape] ? " " + shape : "");
        }
        copy.clear();
        for (int shape = 0; shape < 6; shape++) {
            if (!there[shape]) {
                copy.shape(0, shape, -1, UNUSED_MARK);
            }
        }
        for (int shape = 0; shape < 6; shape++) {
            copy.write(copy.build(shape));
            all.append(" (").append(copy.bytes()).append(')');
        }
        return all.append('\n').toString();
    }

    static String shapesOfSide1(Run x) {
        Integer[] marks = new Integer[6];
        int[][] kinds = new int[6][];
        StringBuilder all = new StringBuilder("shapes of side 1:");
        for (int shape = 0; shape < 6; shape++) {
            marks[shape] = markOf(x, shape);
            kinds[shape] = marks[shape] == null ? null : kindsOf(x, shape, marks[shape]);
            all.append(" (").append(marks[shape]).append(' ').append(Arrays.toString(kinds[shape]));
            for (int parent = 0; parent < shape; parent++) {
                if (kinds[shape] != null && kinds[parent] != null && isInChain(x, shape, parent, marks, kinds[parent])) {
                    all.append(" below ").append(parent);
                }
            }
            all.append(')');
        }
        return all.append('\n').toString();
    }

    private static Run freeCopy(Run x) {
        return freeCopy(x, -1);
    }

    /** A copy with all limits but one as high as can be. */
    private static Run freeCopy(Run x, int kept) {
        int[] most = {1000, 5, 40, 10};
        Run copy = x.copy();
        for (int what = 0; what < 4; what++) {
            if (what != kept) {
                copy.limit(what, most[what]);
            }
        }
        return copy;
    }

    private static void appendDescription(Run x, int shape, int mark, int... fields) {
        x.append(114);
        x.append(shape);
        for (int k = 3; k >= 0; k--) {
            x.append(mark >> 8 * k);
        }
        x.append(fields.length / 2);
        for (int b : fields) {
            x.append(b);
        }
    }

    /** A value that is not what a field has that was not read: a row, or ones. */
    private static void appendValue(Run x, int kind) {
        if (kind == 4) {
            x.append(117);
            x.append(0);
        } else {
            for (int k = 1 << kind; k > 0; k--) {
                x.append(1);
            }
        }
    }

    private static Integer markOf(Run x, int shape) {
        for (int mark : x.marks()) {
            Run copy = freeCopy(x);
            copy.fill(172, 237, 115);
            appendDescription(copy, shape, mark);
            copy.append(112);
            if (copy.read().equals("1 at -1")) {
                return mark;
            }
        }
        return null;
    }

    /** The kind for each name, -1 for none, -2 if it is none of those that there are. */
    private static int[] kindsOf(Run x, int shape, int mark) {
        int[] kinds = new int[10];
        for (int name = 0; name < 10; name++) {
            int strange = 0;
            kinds[name] = -1;
            for (int kind = 0; kind < 5; kind++) {
                Run copy = freeCopy(x);
                copy.fill(172, 237, 115);
                appendDescription(copy, shape, mark, name, kind);
                copy.append(112);
                appendValue(copy, kind);
                strange += copy.read().equals("strange at 3") ? 1 : 0;
                kinds[name] = copy.position() == -1 && copy.get(1, 0, shape, name) > 0 ? kind : kinds[name];
            }
            kinds[name] = strange == (kinds[name] == -1 ? 0 : 4) ? kinds[name] : -2;
        }
        return kinds;
    }

    private static boolean isInChain(Run x, int shape, int parent, Integer[] marks, int[] kindsOfParent) {
        for (int name = 0; name < 10; name++) {
            if (kindsOfParent[name] >= 0) {
                Run copy = freeCopy(x);
                copy.fill(172, 237, 115);
                appendDescription(copy, shape, marks[shape]);
                appendDescription(copy, parent, marks[parent], name, kindsOfParent[name]);
                copy.append(112);
                appendValue(copy, kindsOfParent[name]);
                copy.read();
                return copy.position() == -1 && copy.get(1, 0, parent, name) > 0;
            }
        }
        return false;
    }

    /** The limits, each as what becomes of a stream that goes beyond all that it may be. */
    static String limits(Run x) {
        Run lengths = freeCopy(x, 1);
        lengths.fill(172, 237, 117, 1, 117, 2, 117, 3, 117, 4, 117, 5, 112, 112, 112, 112, 112, 112, 112, 112, 112, 112, 112);
        Run things = freeCopy(x, 2);
        things.fill(Made.rows(44));
        Run depth = freeCopy(x, 3);
        depth.fill(Made.deepRows(12));
        return "limits: bytes " + limitOfBytes(x) + ", lengths " + lengths.read() + ", things " + things.read()
            + ", depth " + depth.read() + "\n";
    }

    private static int limitOfBytes(Run x) {
        int least = -1;
        int most = 1000;
        while (least < most) {
            int middle = least + (most - least + 1) / 2;
            Run copy = freeCopy(x, 0);
            copy.clear();
            Made.for999Bytes(copy);
            copy.write(0);
            copy.append(0);
            copy.cut(middle);
            if (!copy.read().equals("filtered at 0")) {
                least = middle;
            } else {
                most = middle - 1;
            }
        }
        return least;
    }
}
