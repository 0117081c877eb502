/** Promises 1 to 7, with the descriptions of music and text: each sentence with an edge, inside it and outside. */
public final class TextEdgesTest {
    private static final Checks CHECKS = new Checks();
    private static final Class<IllegalArgumentException> ARGUMENT = IllegalArgumentException.class;
    private static final Class<IllegalStateException> STATE = IllegalStateException.class;
    private static final Class<IndexOutOfBoundsException> INDEX = IndexOutOfBoundsException.class;
    private static final int NONE = -9;
    private static final int LEAST = Integer.MIN_VALUE;
    private static final int MOST = Integer.MAX_VALUE;
    private static final String DIGITS = "0123456789";
    private static final String FULL_SCORE = "M416" + "60".repeat(64);

    public static void main(String[] args) {
        firstMusic();
        firstSettings();
        firstNothing();
        firstReduction();
        objectsShareNothing();
        characters();
        fullText();
        refusalsOfAppend();
        clearText();
        firstCharacterThatIsNotAllowed();
        holdsInTheText();
        textThatEndsTooSoon();
        textThatGoesOn();
        errorPositionChangesNothing();
        numbersOfStavesAndBeats();
        loadRefused();
        loadReplacesAll();
        loadForgets();
        loadIsNoAction();
        about();
        aboutCounts();
        cellPlaces();
        cellNumbers();
        longestHold();
        CHECKS.close();
    }

    // ---- promise 1

    private static void firstMusic() {
        CHECKS.sentence("P1", "Creates a staff with one beat, which is a rest.");
        HandSpans x = new HandSpans();
        CHECKS.due("staves", 1, x.about(6));
        CHECKS.due("beats", 1, x.about(7));
        CHECKS.due("struck notes", 0, x.about(8));
        CHECKS.due("holds", 0, x.about(9));
        CHECKS.due("the cell as it is written", NONE, x.cell(0, 0, false));
        CHECKS.due("the cell as it sounds", NONE, x.cell(0, 0, true));
        CHECKS.refused("staff 1", INDEX, () -> x.cell(1, 0, false));
        CHECKS.refused("beat 1", INDEX, () -> x.cell(0, 1, false));
        CHECKS.sentence("The constants", "NONE = -9");
        CHECKS.due("NONE", -9, HandSpans.NONE);
    }

    private static void firstSettings() {
        CHECKS.sentence("MUSIC", "at first 12 each ... at first 5 ... at first 3 ... at first 1 ... at first 0");
        int[] first = {12, 12, 5, 3, 1, 0};
        HandSpans x = new HandSpans();
        for (int what = 0; what < first.length; what++) {
            CHECKS.due("setting " + what, first[what], x.about(what));
        }
    }

    private static void firstNothing() {
        CHECKS.sentence("P1", "Creates a staff: no text, no remembered state, no saved one");
        CHECKS.due("length of the text", 0, new HandSpans().clearText());
        CHECKS.due("errorPosition", 0, new HandSpans().errorPosition());
        CHECKS.refusedBy(HandSpans::new, "load", STATE, HandSpans::load);
        CHECKS.refusedBy(HandSpans::new, "undo", STATE, HandSpans::undo);
        CHECKS.refusedBy(HandSpans::new, "restore(0)", STATE, x -> x.restore(0));
        CHECKS.refusedBy(HandSpans::new, "restore(1)", STATE, x -> x.restore(1));
    }

    private static void firstReduction() {
        CHECKS.sentence("P1", "Creates a staff with one beat, which is a rest: its reduction");
        HandSpans x = new HandSpans();
        int[] note = {NONE, NONE, NONE, NONE};
        int[] hand = {0, NONE, 0, 0, 0};
        int[] beat = {0, 1, 0, 0, 1};
        for (int what = 0; what < 4; what++) {
            CHECKS.due("note", note[what], x.note(0, 0, what));
        }
        for (int what = 0; what < 5; what++) {
            CHECKS.due("left hand", hand[what], x.hand(0, 0, what));
            CHECKS.due("right hand", hand[what], x.hand(1, 0, what));
            CHECKS.due("beat", beat[what], x.beat(0, what));
        }
        for (int what = 0; what < 8; what++) {
            CHECKS.due("whole", 0, x.whole(what));
        }
        CHECKS.due("smallestSpan", 1, x.smallestSpan());
        CHECKS.due("dearest", 0, x.dearest());
        CHECKS.due("bestTransposition", 0, x.bestTransposition(0));
        CHECKS.due("runScript: no note is left out", 0, x.runScript(1, 90000));
        CHECKS.due("simulate, a struck note", 0, x.simulate(0, 1));
    }

    private static void objectsShareNothing() {
        CHECKS.sentence("P1", "Creates: one object, apart from all others");
        HandSpans one = Scores.full("M20230=4044");
        HandSpans other = new HandSpans();
        CHECKS.due("a new object beside a full one", Scores.usedUp(new HandSpans()), Scores.usedUp(other));
        CHECKS.due("the full one", Scores.usedUp(Scores.full("M20230=4044")), Scores.usedUp(one));
    }

    // ---- promise 2

    private static void characters() {
        CHECKS.sentence("P2", "c: character code, 0 to 255");
        HandSpans x = new HandSpans();
        CHECKS.due("append(0)", 1, x.append(0));
        CHECKS.due("append(255)", 2, x.append(255));
        for (int c : new int[] {-1, 256, LEAST, MOST, 77 + 256, 77 - 256, 65536 + 77}) {
            CHECKS.refusedBy(HandSpans::new, "append(" + c + ")", ARGUMENT, y -> y.append(c));
            CHECKS.refusedIn("M102-40", "append(" + c + ")", ARGUMENT, y -> y.append(c));
        }
    }

    private static HandSpans longText(String start, int length) {
        return Scores.typed(start + "-".repeat(length - start.length()));
    }

    private static void fullText() {
        CHECKS.sentence("P2", "Throws IllegalStateException if the text already has 140 characters");
        HandSpans x = new HandSpans();
        for (int i = 1; i <= 140; i++) {
            CHECKS.due("append", i, x.append('='));
        }
        CHECKS.refused("the 141st", STATE, () -> x.append('='));
        CHECKS.due("length of the text", 140, x.clearText());
        CHECKS.due("there is room again", 1, x.append('='));
        for (int c : new int[] {0, 'M', '-', 255}) {
            CHECKS.refusedBy(() -> longText("M210", 140), "append(" + c + ")", STATE, y -> y.append(c));
            CHECKS.refusedBy(() -> Scores.full("M101-", "M210" + "-".repeat(136)), "append(" + c + ")", STATE,
                    y -> y.append(c));
        }
        HandSpans last = longText("M210", 139);
        CHECKS.due("the 140th", 140, last.append('-'));
    }

    private static void refusalsOfAppend() {
        CHECKS.sentence("EXCEPTIONS", "If several exceptions apply to a call, the one that its description names "
                + "first is thrown: append");
        for (int c : new int[] {-1, 256, LEAST, MOST}) {
            CHECKS.refusedBy(() -> longText("M210", 140), "append(" + c + ")", ARGUMENT, y -> y.append(c));
            CHECKS.refusedBy(() -> longText("M210", 139), "append(" + c + ")", ARGUMENT, y -> y.append(c));
        }
    }

    // ---- promise 3

    private static void clearText() {
        CHECKS.sentence("P3", "Empties the text buffer. Returns the previous length of the text.");
        for (int length : new int[] {0, 1, 2, 139, 140}) {
            HandSpans x = Scores.typed("M".repeat(length));
            CHECKS.due("of " + length, length, x.clearText());
            CHECKS.due("of 0", 0, x.clearText());
            CHECKS.due("errorPosition", 0, x.errorPosition());
            Scores.type(x, "M101-");
            CHECKS.due("no sign of the text before", NONE, x.errorPosition());
        }
        HandSpans full = Scores.full("M20230=4044");
        CHECKS.due("of a full object", Scores.OTHER_TEXT.length(), full.clearText());
        Scores.type(full, Scores.OTHER_TEXT);
        CHECKS.due("all else stays", Scores.usedUp(Scores.full("M20230=4044")), Scores.usedUp(full));
    }

    // ---- promise 4

    private static void onlyThese(String start, String allowed) {
        for (int c = 0; c < 256; c++) {
            HandSpans x = Scores.typed(start);
            CHECKS.due("the start " + start, allowed.isEmpty() ? NONE : start.length(), x.errorPosition());
            x.append(c);
            int got = x.errorPosition();
            boolean fine = allowed.indexOf(c) >= 0;
            CHECKS.that(start + " and character " + c + " errs at " + got,
                    fine ? got == start.length() + 1 || got == NONE : got == start.length());
            x.append('~');
            CHECKS.due(start + " and character " + c + ", and a wrong one behind", start.length() + (fine ? 1 : 0),
                    x.errorPosition());
        }
    }

    private static void firstCharacterThatIsNotAllowed() {
        CHECKS.sentence("TEXT", "the letter M");
        onlyThese("", "M");
        CHECKS.sentence("TEXT", "the digit of the number of staves (1 to 4)");
        onlyThese("M", "1234");
        CHECKS.sentence("TEXT", "two digits for the number of beats (01 to 16)");
        onlyThese("M1", "01");
        onlyThese("M4", "01");
        onlyThese("M10", "123456789");
        onlyThese("M41", "0123456");
        CHECKS.sentence("TEXT", "two digits for the pitch of a struck note (00 to 60)");
        onlyThese("M1020", DIGITS);
        onlyThese("M1021", DIGITS);
        onlyThese("M1024", DIGITS);
        onlyThese("M1025", DIGITS);
        onlyThese("M1026", "0");
        onlyThese("M20230=5", DIGITS);
        onlyThese("M20230=-6", "0");
    }

    private static void holdsInTheText() {
        CHECKS.sentence("TEXT", "this includes an = in beat 0 or behind a rest");
        onlyThese("M102", "-0123456");
        onlyThese("M102-", "-0123456");
        onlyThese("M10230", "-=0123456");
        onlyThese("M10300=", "-=0123456");
        onlyThese("M10430=-", "-0123456");
        onlyThese("M10430-60", "-=0123456");
        onlyThese("M20230=", "-0123456");
        onlyThese("M2023030", "-0123456");
        onlyThese("M20230=-", "-0123456");
        onlyThese("M20230=40", "-=0123456");
        onlyThese("M11630" + "=".repeat(14), "-=0123456");
        onlyThese("M416" + "60".repeat(63), "-=0123456");
        onlyThese("M416" + "60".repeat(48), "-0123456");
    }

    private static void textThatEndsTooSoon() {
        CHECKS.sentence("TEXT", "if the text ends too soon, it is the length of the text");
        for (String text : new String[] {"M101-", "M10160", "M20230=-00", "M11605" + "=".repeat(15), FULL_SCORE}) {
            for (int length = 0; length < text.length(); length++) {
                String start = text.substring(0, length);
                CHECKS.due("of " + start, length, Scores.typed(start).errorPosition());
            }
            CHECKS.sentence("P4", "NONE if it is a text as described above");
            CHECKS.due("of " + text, NONE, Scores.typed(text).errorPosition());
        }
    }

    private static void textThatGoesOn() {
        CHECKS.sentence("P4", "Returns the error position of the text: there is more behind the last cell");
        onlyThese("M101-", "");
        onlyThese("M10160", "");
        onlyThese("M20230=4044", "");
        onlyThese("M116" + "-".repeat(16), "");
        onlyThese("M416" + "60".repeat(63) + "=", "");
        onlyThese(FULL_SCORE, "");
        CHECKS.sentence("TEXT", "a text buffer of at most 140 characters");
        CHECKS.due("of a full buffer with a score", 132, Scores.typed(FULL_SCORE + "60606060").errorPosition());
        CHECKS.due("of a full buffer", 0, Scores.typed("-".repeat(140)).errorPosition());
    }

    private static void errorPositionChangesNothing() {
        CHECKS.sentence("P4", "Checks the text.");
        for (String text : new String[] {"", "M", "M20230=404", "M20230=4044", "M20230=4044-"}) {
            int want = text.endsWith("44") ? NONE : text.endsWith("-") ? text.length() - 1 : text.length();
            HandSpans x = Scores.full("M10250=", text);
            CHECKS.due("of " + text, want, x.errorPosition());
            CHECKS.due("of " + text + ", again", want, x.errorPosition());
            CHECKS.due("all else", Scores.usedUp(Scores.full("M10250=", text)), Scores.usedUp(x));
        }
    }

    private static void numbersOfStavesAndBeats() {
        CHECKS.sentence("MUSIC", "There are 1 to 4 staves, numbered from 0, and 1 to 16 beats, numbered from 0.");
        for (int staves = 0; staves <= 5; staves++) {
            for (int beats = 0; beats <= 17; beats++) {
                String head = "M" + staves + beats / 10 + beats % 10;
                HandSpans x = Scores.typed(head + "30".repeat(staves * beats <= 64 ? staves * beats : 64));
                if (staves == 0 || staves == 5) {
                    CHECKS.due(head, 1, x.errorPosition());
                } else if (beats == 0 || beats == 17) {
                    CHECKS.due(head, 3, x.errorPosition());
                } else {
                    CHECKS.due(head, NONE, x.errorPosition());
                    CHECKS.due(head + " load", beats, x.load());
                    CHECKS.due(head + " staves", staves, x.about(6));
                    CHECKS.due(head + " beats", beats, x.about(7));
                    CHECKS.due(head + " the last cell", 30, x.cell(staves - 1, beats - 1, false));
                }
            }
        }
    }

    // ---- promise 5

    private static void loadRefused() {
        CHECKS.sentence("P5", "Throws IllegalStateException if the text is not as described above");
        String[] wrong = {"", "M", "M201", "M20230=40", "M20230=404", "M20230=4044-", "M20230=4044 ", "m20230=4044",
            "M20230=4061", "M202=-4044", "M20230-=44", "M20230=-=", "M50230=4044", "M21730=4044", "M20030=4044"};
        for (String text : wrong) {
            CHECKS.refusedBy(() -> Scores.typed(text), "load of " + text, STATE, HandSpans::load);
            CHECKS.refusedBy(() -> Scores.full("M20250=-51", text), "load of " + text, STATE, HandSpans::load);
        }
    }

    private static void loadReplacesAll() {
        CHECKS.sentence("P5", "Replaces the music by that of the text ... Returns the number of beats.");
        HandSpans x = Scores.typed(FULL_SCORE);
        CHECKS.due("the greatest music", 16, x.load());
        CHECKS.due("the greatest music", FULL_SCORE, Scores.music(x));
        x.clearText();
        Scores.type(x, "M101-");
        CHECKS.due("the smallest music", 1, x.load());
        CHECKS.due("the smallest music", "M101-", Scores.music(x));
        for (int i = 0; i < 3; i++) {
            x.staff(true);
            x.insertBeat(x.about(7));
        }
        CHECKS.due("nothing comes back of the music before", "M404" + "-".repeat(16), Scores.music(x));
        CHECKS.sentence("P5", "the settings become as at first");
        int[] other = {1, 24, 1, 9, 0, 1};
        for (int what = 0; what < other.length; what++) {
            HandSpans y = Scores.typed("M10130");
            y.set(what, other[what]);
            y.load();
            CHECKS.due("after set(" + what + ")", "M10130 12 12 5 3 1 0", Scores.seen(y));
        }
    }

    private static void loadForgets() {
        CHECKS.sentence("P5", "Forgets all remembered states");
        HandSpans x = Scores.full("M20230=4044");
        CHECKS.due("load", 3, x.load());
        CHECKS.refused("undo", STATE, x::undo);
        CHECKS.sentence("P5", "and empties both save slots");
        CHECKS.refused("restore(0)", STATE, () -> x.restore(0));
        CHECKS.refused("restore(1)", STATE, () -> x.restore(1));
        CHECKS.sentence("P5", "Keeps the text.");
        CHECKS.due("errorPosition", NONE, x.errorPosition());
        CHECKS.due("load again", 3, x.load());
        CHECKS.due("append behind it", 10, x.append('-'));
        CHECKS.due("its length", 10, x.clearText());
        HandSpans only = Scores.of("M10130");
        only.write(0, 0, 31);
        only.load();
        CHECKS.refused("one state is forgotten", STATE, only::undo);
        only.save(1);
        only.load();
        CHECKS.refused("one slot is emptied", STATE, () -> only.restore(1));
    }

    private static void loadIsNoAction() {
        CHECKS.sentence("ACTIONS AND UNDO", "load and restore are not actions.");
        HandSpans x = Scores.of("M10130");
        CHECKS.refused("undo", STATE, x::undo);
        x.write(0, 0, 31);
        CHECKS.due("what comes then is the only action", 0, x.undo());
        CHECKS.due("it is taken back", "M10130", Scores.music(x));
    }

    // ---- promise 6

    private static void about() {
        CHECKS.sentence("P6", "Throws IllegalArgumentException if what is not 0 to 9");
        for (int what : new int[] {-1, 10, LEAST, MOST}) {
            CHECKS.refusedIn("M20230=4044", "about(" + what + ")", ARGUMENT, x -> x.about(what));
        }
        int[] want = {12, 12, 5, 3, 1, 0, 2, 2, 3, 1};
        for (int i = 0; i <= 9; i++) {
            int what = i;
            CHECKS.toldIn("M20230=4044", "about(" + what + ")", want[what], x -> x.about(what));
        }
    }

    private static void aboutCounts() {
        CHECKS.sentence("P6", "8: of struck notes in the music; 9: of holds in the music");
        HandSpans all = Scores.of(FULL_SCORE);
        CHECKS.due("all are struck", 64, all.about(8));
        CHECKS.due("no hold", 0, all.about(9));
        HandSpans holds = Scores.of("M416" + ("00" + "=".repeat(15)).repeat(4));
        CHECKS.due("one note a staff", 4, holds.about(8));
        CHECKS.due("all others hold it", 60, holds.about(9));
        HandSpans rests = Scores.of("M416" + "-".repeat(64));
        CHECKS.due("no note", 0, rests.about(8));
        CHECKS.due("no hold", 0, rests.about(9));
        holds.removeBeat(15);
        holds.staff(false);
        CHECKS.due("of the staves there are", 3, holds.about(8));
        CHECKS.due("of the beats there are", 42, holds.about(9));
        HandSpans cut = Scores.of("M20240=2050");
        cut.set(2, 1);
        CHECKS.due("a cut tie is a hold in the music", 1, cut.about(9));
    }

    // ---- promise 7

    private static void cellPlaces() {
        CHECKS.sentence("P7", "Throws IndexOutOfBoundsException if there is no such staff or beat");
        String[] scores = {"M10130", "M40130404130", "M116" + "-".repeat(15) + "30", FULL_SCORE};
        int[] staves = {1, 4, 1, 4};
        int[] beats = {1, 1, 16, 16};
        for (int i = 0; i < scores.length; i++) {
            HandSpans x = Scores.of(scores[i]);
            int s = staves[i];
            int b = beats[i];
            for (boolean pitch : new boolean[] {false, true}) {
                CHECKS.due("the last cell", x.cell(s - 1, b - 1, false), x.cell(s - 1, b - 1, pitch));
                CHECKS.due("the first cell", x.cell(0, 0, false), x.cell(0, 0, pitch));
                for (int wrong : new int[] {-1, s, LEAST, MOST}) {
                    CHECKS.refused("cell(" + wrong + ",0)", INDEX, () -> x.cell(wrong, 0, pitch));
                }
                for (int wrong : new int[] {-1, b, LEAST, MOST}) {
                    CHECKS.refused("cell(0," + wrong + ")", INDEX, () -> x.cell(0, wrong, pitch));
                }
            }
        }
        int[][] wrong = {{-1, 0}, {2, 0}, {0, -1}, {0, 2}, {2, 2}, {1, LEAST}, {MOST, 1}};
        for (int[] at : wrong) {
            CHECKS.refusedIn("M20230=4044", "cell", INDEX, x -> x.cell(at[0], at[1], false));
            CHECKS.refusedIn("M20230=4044", "cell", INDEX, x -> x.cell(at[0], at[1], true));
        }
    }

    private static void cellNumbers() {
        CHECKS.sentence("P7", "Returns the pitch; 99 for a hold as it is written; NONE for a rest.");
        int[] written = {0, 99, 60, 99, NONE, 30};
        int[] sounding = {0, 0, 60, 60, NONE, 30};
        for (int i = 0; i < written.length; i++) {
            int b = i;
            CHECKS.toldIn("M10600=60=-30", "cell(0," + b + ",false)", written[b], x -> x.cell(0, b, false));
            CHECKS.toldIn("M10600=60=-30", "cell(0," + b + ",true)", sounding[b], x -> x.cell(0, b, true));
        }
    }

    private static void longestHold() {
        CHECKS.sentence("MUSIC", "A hold continues the note of its staff in the beat before, struck or held, and "
                + "has its pitch.");
        HandSpans x = Scores.of("M216" + ("17" + "=".repeat(15)) + ("00" + "=".repeat(15)));
        for (int b = 0; b < 16; b++) {
            CHECKS.due("its pitch in beat " + b, 17, x.cell(0, b, true));
            CHECKS.due("its pitch in beat " + b, 0, x.cell(1, b, true));
            CHECKS.due("as it is written", b == 0 ? 17 : 99, x.cell(0, b, false));
        }
        x.write(0, 8, 18);
        CHECKS.due("before a new note", 17, x.cell(0, 7, true));
        CHECKS.due("behind a new note", 18, x.cell(0, 15, true));
    }
}
