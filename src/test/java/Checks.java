/** Counts the answers that are due and those that are not; a test ends with close(). */
final class Checks {
    /** A call that answers a number, or throws. */
    interface Call {
        long answer();
    }

    /** A call on an object that is made for it. */
    interface Deed {
        long on(HandSpans x);
    }

    /** Makes the same object as often as it is asked to. */
    interface Maker {
        HandSpans make();
    }

    private static final int SHOWN = 40;
    private String sentence = "";
    private int passed;
    private int failed;

    /** What is checked from here on: the promise and the words of the document, and behind a colon what of them. */
    void sentence(String promise, String words) {
        sentence = promise + " '" + words + "': ";
    }

    void due(String what, long want, long got) {
        that(what + " answered " + got + ", due is " + want, got == want);
    }

    void due(String what, String want, String got) {
        that(what + " is " + got + ", due is " + want, got.equals(want));
    }

    void that(String fault, boolean holds) {
        if (holds) {
            passed++;
            return;
        }
        failed++;
        if (failed <= SHOWN) {
            System.out.println(sentence + fault);
        }
    }

    /** The class must be this one itself: what the machine throws is often of a class below it. */
    void refused(String what, Class<? extends RuntimeException> due, Call call) {
        that(what, "throws " + due.getName(), call);
    }

    private void that(String what, String due, Call call) {
        String got = outcome(call);
        that(what + " " + got + ", due is that it " + due, got.equals(due));
    }

    /** The call throws this exception, and changes nothing: neither in a plain object nor in a full one. */
    void refusedIn(String music, String what, Class<? extends RuntimeException> due, Deed deed) {
        refusedBy(() -> Scores.of(music), music + ", " + what, due, deed);
        refusedBy(() -> Scores.full(music), music + " (full), " + what, due, deed);
    }

    void refusedBy(Maker maker, String what, Class<? extends RuntimeException> due, Deed deed) {
        changesNothing(maker, what, "throws " + due.getName(), deed);
    }

    /** The call answers this number, and changes nothing: neither in a plain object nor in a full one. */
    void toldIn(String music, String what, long want, Deed deed) {
        changesNothing(() -> Scores.of(music), music + ", " + what, "answers " + want, deed);
        changesNothing(() -> Scores.full(music), music + " (full), " + what, "answers " + want, deed);
    }

    private void changesNothing(Maker maker, String what, String due, Deed deed) {
        HandSpans called = maker.make();
        that(what, due, () -> deed.on(called));
        due("all that is there after " + what, Scores.usedUp(maker.make()), Scores.usedUp(called));
    }

    static String outcome(Call call) {
        try {
            return "answers " + call.answer();
        } catch (RuntimeException e) {
            return "throws " + e.getClass().getName();
        }
    }

    void close() {
        System.out.println(passed + " passed, " + failed + " failed");
        if (failed > 0) {
            System.exit(1);
        }
    }
}
