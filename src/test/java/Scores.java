/** Makes objects of HandSpans with music, and tells all that can be seen of one. */
final class Scores {
    /** The text of a full object: it can be loaded, and is none of the music that the tests look at. */
    static final String OTHER_TEXT = "M1034441=";
    private static final int FEW_CELLS = 8;

    private Scores() {
    }

    static void type(HandSpans x, String text) {
        for (int i = 0; i < text.length(); i++) {
            x.append(text.charAt(i));
        }
    }

    static HandSpans typed(String text) {
        HandSpans x = new HandSpans();
        type(x, text);
        return x;
    }

    static HandSpans of(String text) {
        HandSpans x = typed(text);
        x.load();
        return x;
    }

    static HandSpans full(String music) {
        return full(music, OTHER_TEXT);
    }

    /** Music with the settings as at first, and behind it 14 remembered states, two saved ones and another text. */
    static HandSpans full(String music, String text) {
        HandSpans x = of(music);
        x.clearText();
        type(x, text);
        for (int slot = 0; slot < 2; slot++) {
            x.set(1, 20 + slot);
            x.save(slot);
        }
        x.set(1, 12);
        for (int span = 1; span <= 14; span++) {
            x.set(0, span);
        }
        x.set(0, 12);
        return x;
    }

    /** The music as a text. */
    static String music(HandSpans x) {
        int staves = x.about(6);
        int beats = x.about(7);
        StringBuilder told = new StringBuilder("M").append(staves).append(beats / 10).append(beats % 10);
        for (int s = 0; s < staves; s++) {
            for (int b = 0; b < beats; b++) {
                int v = x.cell(s, b, false);
                if (v == HandSpans.NONE) {
                    told.append('-');
                } else if (v == 99) {
                    told.append('=');
                } else {
                    told.append(v / 10).append(v % 10);
                }
            }
        }
        return told.toString();
    }

    /** The music as a text, and the settings. */
    static String seen(HandSpans x) {
        StringBuilder told = new StringBuilder(music(x));
        for (int what = 0; what < 6; what++) {
            told.append(' ').append(x.about(what));
        }
        return told.toString();
    }

    /** All that an object holds: what is seen, the text, what can be taken back, the slots. It is used up by it. */
    static String usedUp(HandSpans x) {
        StringBuilder told = new StringBuilder(seen(x)).append("; the text errs at ").append(x.errorPosition());
        String back = Checks.outcome(x::undo);
        while (back.startsWith("answers")) {
            told.append("; undo ").append(back).append(": ").append(inBrief(x));
            back = Checks.outcome(x::undo);
        }
        told.append("; slot 0 ").append(Checks.outcome(() -> x.restore(0))).append(": ").append(inBrief(x));
        told.append("; slot 1 ").append(Checks.outcome(() -> x.restore(1))).append(": ").append(inBrief(x));
        told.append("; load ").append(Checks.outcome(x::load)).append(": ").append(inBrief(x));
        return told.append("; length of the text ").append(x.clearText()).toString();
    }

    /** An object may be used for 512 calls: so the cells are told of small music alone. */
    private static String inBrief(HandSpans x) {
        if (x.about(6) * x.about(7) <= FEW_CELLS) {
            return seen(x);
        }
        StringBuilder told = new StringBuilder();
        for (int what = 0; what <= 9; what++) {
            told.append(' ').append(x.about(what));
        }
        return told.toString();
    }

    /** How many actions can be taken back; they are. */
    static int undoAll(HandSpans x) {
        int count = 0;
        while (Checks.outcome(x::undo).startsWith("answers")) {
            count++;
        }
        return count;
    }
}
