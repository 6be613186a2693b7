/** Counts answers that are not as due; every test ends with done(). */
final class Check {
    private static int wrong = 0;

    private Check() {
    }

    static void same(String what, long got, long due) {
        if (got != due) {
            wrong++;
            System.out.println(what + " answered " + got + ", due is " + due);
        }
    }

    static void same(String what, String got, String due) {
        if (!got.equals(due)) {
            wrong++;
            System.out.println(what + " answered '" + got + "', due is '" + due + "'");
        }
    }

    static void yes(String what, boolean got) {
        same(what, got ? 1 : 0, 1);
    }

    static void no(String what, boolean got) {
        same(what, got ? 1 : 0, 0);
    }

    /** Empties the stream and puts these bytes in it. */
    static void fill(ThingStream x, int... bytes) {
        x.cut(0);
        for (int k = 0; k < bytes.length; k++) {
            x.put(k, bytes[k]);
        }
    }

    static String bytes(ThingStream x) {
        StringBuilder all = new StringBuilder();
        for (int k = 0; k < x.at(-1); k++) {
            all.append(k == 0 ? "" : " ").append(x.at(k));
        }
        return all.toString();
    }

    /** What read does, with the position behind it: "3 at -1", "wrong at 5", "strange at 3", "filtered at 2". */
    static String read(ThingStream x) {
        String answer;
        try {
            answer = String.valueOf(x.read());
        } catch (IllegalArgumentException e) {
            answer = "wrong";
        } catch (IllegalStateException e) {
            answer = "strange";
        } catch (UnsupportedOperationException e) {
            answer = "filtered";
        }
        return answer + " at " + x.position();
    }

    static void reads(String what, ThingStream x, String due) {
        same(what, read(x), due);
    }

    static void done() {
        if (wrong > 0) {
            System.out.println(wrong + " answers are not as due");
            System.exit(1);
        }
    }
}
