/** Promises 1 to 7: a new object, the text, and what there is. */
public final class TextTest {
    private static final Checks CHECKS = new Checks();
    private static final Class<IllegalArgumentException> ARGUMENT = IllegalArgumentException.class;
    private static final Class<IllegalStateException> STATE = IllegalStateException.class;
    private static final Class<IndexOutOfBoundsException> INDEX = IndexOutOfBoundsException.class;

    public static void main(String[] args) {
        newObject();
        append();
        clearText();
        errorPosition();
        load();
        loadForgets();
        about();
        cell();
        CHECKS.close();
    }

    private static void newObject() {
        HandSpans x = new HandSpans();
        CHECKS.due("NONE", -9, HandSpans.NONE);
        CHECKS.that("a new object is one rest with the first settings", Scores.seen(x).equals("M101- 12 12 5 3 1 0"));
        CHECKS.due("P1 clearText", 0, x.clearText());
        CHECKS.refused("P1 undo", STATE, x::undo);
        for (int i = 0; i < 2; i++) {
            int slot = i;
            CHECKS.refused("P1 restore", STATE, () -> x.restore(slot));
        }
    }

    private static void append() {
        HandSpans x = new HandSpans();
        CHECKS.due("P2 append(0)", 1, x.append(0));
        CHECKS.due("P2 append(255)", 2, x.append(255));
        CHECKS.refused("P2 append(-1)", ARGUMENT, () -> x.append(-1));
        CHECKS.refused("P2 append(256)", ARGUMENT, () -> x.append(256));
        CHECKS.refused("P2 append(least int)", ARGUMENT, () -> x.append(Integer.MIN_VALUE));
        for (int i = 3; i <= 140; i++) {
            CHECKS.due("P2 append", i, x.append('='));
        }
        CHECKS.refused("P2 the 141st", STATE, () -> x.append('M'));
        CHECKS.refused("P2 the argument is named first", ARGUMENT, () -> x.append(256));
        CHECKS.due("P2 nothing was added", 140, x.clearText());
    }

    private static void clearText() {
        HandSpans x = Scores.of("M10130");
        CHECKS.due("P3 length", 6, x.clearText());
        CHECKS.due("P3 again", 0, x.clearText());
        CHECKS.due("P3 the music stays", 30, x.cell(0, 0, false));
        CHECKS.due("P3 from the start", 1, x.append('M'));
    }

    private static void errs(String text, int want) {
        HandSpans x = new HandSpans();
        Scores.type(x, text);
        CHECKS.due("P4 errorPosition of " + text, want, x.errorPosition());
        CHECKS.that("P4 changes nothing", Scores.seen(x).equals("M101- 12 12 5 3 1 0"));
    }

    private static void errorPosition() {
        errs("", 0);
        errs("m101-", 0);
        errs("M", 1);
        errs("M001-", 1);
        errs("M501-", 1);
        errs("M1", 2);
        errs("M12", 2);
        errs("M1-", 2);
        errs("M10", 3);
        errs("M100-", 3);
        errs("M117-", 3);
        errs("M11-", 3);
        errs("M116" + "-".repeat(16), -9);
        errs("M116" + "-".repeat(15), 19);
        errs("M110" + "-".repeat(10), -9);
        errs("M109" + "-".repeat(9), -9);
        errs("M101", 4);
        errs("M101-", -9);
        errs("M101--", 5);
        errs("M101 -", 4);
        errs("M10100", -9);
        errs("M10160", -9);
        errs("M10161", 5);
        errs("M10170", 4);
        errs("M1016", 5);
        errs("M1016-", 5);
        errs("M1015=", 5);
        errs("M101=", 4);
        errs("M102-=", 5);
        errs("M103-30=", -9);
        errs("M10430==-", -9);
        errs("M10430=-=", 8);
        errs("M20230==-", 7);
        errs("M20230=30=", -9);
        errs("M20230-=", 7);
        errs("M202-30=", 7);
        errs("M201-" + (char) 255, 5);
        errs("M416" + "60".repeat(64), -9);
        errs("M416" + "60".repeat(64) + "--------", 132);
    }

    private static void load() {
        HandSpans x = new HandSpans();
        Scores.type(x, "M20330=-60-00");
        CHECKS.due("P5 load", 3, x.load());
        CHECKS.that("P5 the music", Scores.seen(x).equals("M20330=-60-00 12 12 5 3 1 0"));
        CHECKS.due("P5 keeps the text", 13, x.clearText());
        CHECKS.refused("P5 no text", STATE, x::load);
        CHECKS.that("P5 nothing changed", Scores.seen(x).equals("M20330=-60-00 12 12 5 3 1 0"));
        Scores.type(x, "M101-");
        CHECKS.due("P5 a smaller one", 1, x.load());
        x.staff(true);
        x.insertBeat(1);
        CHECKS.that("P5 nothing of the music before comes back", Scores.seen(x).startsWith("M202----"));
    }

    private static void loadForgets() {
        HandSpans x = Scores.of("M10230-");
        x.set(0, 3);
        x.set(5, 1);
        x.save(0);
        x.save(1);
        x.append('-');
        CHECKS.refused("P5 a wrong text", STATE, x::load);
        CHECKS.due("P5 the slots stay then", 2, x.restore(0));
        x.set(4, 0);
        CHECKS.refused("P5 a wrong text", STATE, x::load);
        CHECKS.due("P5 what is remembered stays then", 0, x.undo());
        CHECKS.due("P5 the settings stay then", 3, x.about(0));
        x.set(4, 0);
        x.clearText();
        Scores.type(x, "M10230-");
        x.dearest();
        CHECKS.due("P5 load", 2, x.load());
        CHECKS.that("P5 settings as at first", Scores.seen(x).equals("M10230- 12 12 5 3 1 0"));
        CHECKS.refused("P5 nothing to undo", STATE, x::undo);
        CHECKS.refused("P5 slot 0 is empty", STATE, () -> x.restore(0));
        CHECKS.refused("P5 slot 1 is empty", STATE, () -> x.restore(1));
        CHECKS.due("P5 again from the same text", 2, x.load());
    }

    private static void about() {
        HandSpans x = Scores.of("M30430==-3040-5000=--");
        int[] want = {12, 12, 5, 3, 1, 0, 3, 4, 5, 3};
        for (int what = 0; what < want.length; what++) {
            CHECKS.due("P6 about(" + what + ")", want[what], x.about(what));
        }
        CHECKS.refused("P6 about(-1)", ARGUMENT, () -> x.about(-1));
        CHECKS.refused("P6 about(10)", ARGUMENT, () -> x.about(10));
        x.staff(false);
        x.staff(false);
        CHECKS.due("P6 only the notes there are", 1, x.about(8));
    }

    private static void cell() {
        HandSpans x = Scores.of("M20430==--00=60");
        int[][] written = {{30, 99, 99, -9}, {-9, 0, 99, 60}};
        int[][] sounding = {{30, 30, 30, -9}, {-9, 0, 0, 60}};
        for (int s = 0; s < 2; s++) {
            for (int b = 0; b < 4; b++) {
                CHECKS.due("P7 written", written[s][b], x.cell(s, b, false));
                CHECKS.due("P7 sounding", sounding[s][b], x.cell(s, b, true));
            }
        }
        int[][] wrong = {{-1, 0}, {2, 0}, {0, -1}, {0, 4}, {Integer.MAX_VALUE, Integer.MIN_VALUE}};
        for (int[] at : wrong) {
            CHECKS.refused("P7 cell", INDEX, () -> x.cell(at[0], at[1], false));
            CHECKS.refused("P7 cell", INDEX, () -> x.cell(at[0], at[1], true));
        }
    }
}
