/** Counts the answers that are not the ones due, and ends the program with 1 if there were any. */
final class Check {
    interface Call {
        double answer();
    }

    private static int done = 0;
    private static int wrong = 0;
    private static String sentence = "";

    private Check() {
    }

    /** The checks from here on are those of a sentence of the document, which a wrong answer then names. */
    static void sentence(String where, String words) {
        sentence = where + ", '" + words + "': ";
    }

    private static void tell(String what, Object got, Object want) {
        wrong++;
        System.out.println(sentence + what + " answered " + got + ", due is " + want);
    }

    static void same(String what, double got, double want) {
        done++;
        if (got != want) {
            tell(what, got, want);
        }
    }

    static void same(String what, long got, long want) {
        done++;
        if (got != want) {
            tell(what, got, want);
        }
    }

    static void same(String what, String got, String want) {
        done++;
        if (!got.equals(want)) {
            tell(what, got, want);
        }
    }

    static void isTrue(String what, boolean holds) {
        same(what, holds ? 1 : 0, 1);
    }

    static void refused(String what, Class<? extends RuntimeException> due, Call call) {
        done++;
        String got;
        try {
            got = String.valueOf(call.answer());
        } catch (RuntimeException e) {
            if (e.getClass() == due) {
                return;
            }
            got = e.getClass().getName();
        }
        tell(what, got, due.getName());
    }

    /** The bytes at the end of the log, from a place on, are these and no more. */
    static void logFrom(String what, WireData data, int place, int... want) {
        same(what + ": length of the log", data.state(0), place + want.length);
        for (int i = 0; i < want.length; i++) {
            same(what + ": byte " + (place + i), data.byteAt(place + i), want[i]);
        }
    }

    /** LOG's length, PENDING, PLACE, LEFT, RESETS, and whether NO NUMBER was met. */
    static void states(String what, WireData data, int... want) {
        for (int i = 0; i < want.length; i++) {
            same(what + ": state(" + i + ")", data.state(i), want[i]);
        }
    }

    static void finish() {
        System.out.println(done + " checks, " + wrong + " wrong");
        if (wrong != 0) {
            System.exit(1);
        }
    }
}
