/** Makes objects of HandSpans with music, and tells all that can be seen of one. */
final class Scores {
    private Scores() {
    }

    static void type(HandSpans x, String text) {
        for (int i = 0; i < text.length(); i++) {
            x.append(text.charAt(i));
        }
    }

    static HandSpans of(String text) {
        HandSpans x = new HandSpans();
        type(x, text);
        x.load();
        return x;
    }

    /** The music as a text, and the settings. */
    static String seen(HandSpans x) {
        StringBuilder told = new StringBuilder("M").append(x.about(6));
        told.append(x.about(7) / 10).append(x.about(7) % 10);
        for (int s = 0; s < x.about(6); s++) {
            for (int b = 0; b < x.about(7); b++) {
                int v = x.cell(s, b, false);
                if (v == HandSpans.NONE) {
                    told.append('-');
                } else if (v == 99) {
                    told.append('=');
                } else {
                    told.append(v / 10).append(v % 10);
                }
            }
        }
        for (int what = 0; what < 6; what++) {
            told.append(' ').append(x.about(what));
        }
        return told.toString();
    }

    /** How many actions can be taken back; they are. */
    static int undoAll(HandSpans x) {
        int count = 0;
        while (Checks.outcome(x::undo).startsWith("answers")) {
            count++;
        }
        return count;
    }
}
