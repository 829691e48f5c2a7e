/** Compares answers with those that are due, and counts what it has compared. */
final class Check {
    interface Call {
        Object answer();
    }

    private static int good = 0;
    private static int bad = 0;

    private Check() {
    }

    static void same(String what, Object got, Object due) {
        if (got.equals(due)) {
            good++;
        } else {
            bad++;
            System.out.println(what + " answered " + got + ", due is " + due);
        }
    }

    static void isTrue(String what, boolean holds) {
        same(what, holds, true);
    }

    /** The call throws an exception of just this class, and changes nothing. */
    static void fails(String what, Lineclock line, Class<? extends RuntimeException> kind, Call call) {
        String before = Snapshot.of(line);
        String got;
        try {
            got = String.valueOf(call.answer());
        } catch (RuntimeException e) {
            got = e.getClass().getName();
        }
        same(what, got, kind.getName());
        same(what + ", the state after it", Snapshot.of(line), before);
    }

    /** Ends the test: with exit code 1 if an answer was not as due, or none was compared. */
    static void end() {
        System.out.println(good + " answers as due, " + bad + " not");
        if (bad != 0 || good == 0) {
            System.exit(1);
        }
    }
}
