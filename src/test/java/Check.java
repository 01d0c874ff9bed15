import java.util.function.Supplier;

/** What the tests share: it counts answers that are not due, and ends a test with exit code 1 if there were any. */
final class Check {
    private static int asked;
    private static int wrong;

    private Check() {
    }

    /** A call that answers; one that throws is told as throws.Name. */
    static String answer(Supplier<Object> call) {
        try {
            return String.valueOf(call.get());
        } catch (RuntimeException thrown) {
            return "throws." + thrown.getClass().getSimpleName();
        }
    }

    static void due(String what, Object want, Supplier<Object> call) {
        asked++;
        String got = answer(call);
        if (!got.equals(String.valueOf(want))) {
            wrong++;
            System.out.println(what + ": " + got + ", due is " + want);
        }
    }

    static void does(String what, Runnable call) {
        due(what, "done", () -> {
            call.run();
            return "done";
        });
    }

    /** No such PERSON, HUT, YEAR .. */
    static void outside(String what, Runnable call) {
        thrown(what, "IndexOutOfBoundsException", call);
    }

    /** A number is none. */
    static void illegal(String what, Runnable call) {
        thrown(what, "IllegalArgumentException", call);
    }

    /** There are as many as there may be. */
    static void full(String what, Runnable call) {
        thrown(what, "UnsupportedOperationException", call);
    }

    static void thrown(String what, String name, Runnable call) {
        due(what, "throws." + name, () -> {
            call.run();
            return "nothing thrown";
        });
    }

    static void isTrue(String what, boolean right) {
        due(what, true, () -> right);
    }

    /** Puts a text on the TAPE, which is empty before. */
    static void tape(HutRow x, String text) {
        int length = text.length();
        for (int from = 0; from < length; from += 20) {
            int[] n = new int[5];
            for (int i = 0; i < 20; i++) {
                int sign = from + i < length ? text.charAt(from + i) : 'z';
                n[i / 4] |= sign << 24 - i % 4 * 8;
            }
            x.feed(n[0], n[1], n[2], n[3], n[4]);
        }
        x.end(length);
    }

    /** Reads a text of a sort. */
    static int text(HutRow x, int sort, String text) {
        tape(x, text);
        return x.text(sort);
    }

    static void close() {
        System.out.println(asked - wrong + " of " + asked + " answers are as due");
        System.exit(wrong == 0 ? 0 : 1);
    }
}
