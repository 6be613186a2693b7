/** Promise 10: at. */
public final class AtTest {
    public static void main(String[] args) {
        ofAnEmptyStream();
        ofABusyStream();
        ofAFullStream();
        bytesAre0To255();
        Check.done();
    }

    private static void ofAnEmptyStream() {
        asks(new Run(), 0);
        Run x = Made.busy();
        x.cut(0);
        asks(x, 0);
    }

    private static void asks(Run x, int count) {
        int[] none = {-2, -3, count, count + 1, 1000, 1001, Integer.MIN_VALUE, Integer.MAX_VALUE};
        for (int k : none) {
            Check.leaves("at(" + k + ")", x, -1, t -> t.at(k));
        }
        Check.leaves("at(-1)", x, count, t -> t.at(-1));
    }

    private static void ofABusyStream() {
        Run x = Made.busy();
        asks(x, 60);
        Check.leaves("at(0)", x, 172, t -> t.at(0));
        Check.leaves("at(1)", x, 237, t -> t.at(1));
        Check.leaves("at(58)", x, 0, t -> t.at(58));
        Check.leaves("at(59)", x, 7, t -> t.at(59));
    }

    private static void ofAFullStream() {
        Run x = new Run();
        Made.for999Bytes(x);
        x.write(0);
        x.append(9);
        asks(x, 1000);
        Check.leaves("at(998)", x, 112, t -> t.at(998));
        Check.leaves("at(999)", x, 9, t -> t.at(999));
    }

    private static void bytesAre0To255() {
        Run x = Run.of(0, 1, 127, 128, 254, 255);
        int[] due = {0, 1, 127, 128, 254, 255};
        for (int k = 0; k < due.length; k++) {
            Check.same("at(" + k + ")", x.at(k), due[k]);
        }
    }
}
