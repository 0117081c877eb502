/** Counts the answers that are due and those that are not; a test ends with close(). */
final class Checks {
    /** A call that answers a number, or throws. */
    interface Call {
        long answer();
    }

    private static final int SHOWN = 40;
    private int passed;
    private int failed;

    void due(String what, long want, long got) {
        that(what + " answered " + got + ", due is " + want, got == want);
    }

    void that(String fault, boolean holds) {
        if (holds) {
            passed++;
            return;
        }
        failed++;
        if (failed <= SHOWN) {
            System.out.println(fault);
        }
    }

    /** The class must be this one itself: what the machine throws is often of a class below it. */
    void refused(String what, Class<? extends RuntimeException> due, Call call) {
        String got = outcome(call);
        that(what + " gave " + got + ", due is " + due.getName(), got.equals("throws " + due.getName()));
    }

    static String outcome(Call call) {
        try {
            return "answers " + call.answer();
        } catch (RuntimeException e) {
            return "throws " + e.getClass().getName();
        }
    }

    void close() {
        System.out.println(passed + " passed, " + failed + " failed");
        if (failed > 0) {
            System.exit(1);
        }
    }
}
