/** Promises 26 and 27: the save slots. */
public final class SlotTest {
    private static final Checks CHECKS = new Checks();
    private static final Class<IllegalStateException> STATE = IllegalStateException.class;
    private static final Class<IndexOutOfBoundsException> INDEX = IndexOutOfBoundsException.class;

    public static void main(String[] args) {
        save();
        restore();
        restoreForgets();
        CHECKS.close();
    }

    private static void save() {
        HandSpans x = Scores.of("M20330==-20=");
        String first = Scores.seen(x);
        CHECKS.due("P26 save", 3, x.save(0));
        CHECKS.that("P26 the music stays", Scores.seen(x).equals(first));
        CHECKS.refused("P26 is no action", STATE, x::undo);
        CHECKS.refused("P26 slot -1", INDEX, () -> x.save(-1));
        CHECKS.refused("P26 slot 2", INDEX, () -> x.save(2));
        CHECKS.refused("P26 far", INDEX, () -> x.save(Integer.MIN_VALUE));
        CHECKS.refused("P26 the other one is empty", STATE, () -> x.restore(1));
        x.removeBeat(0);
        CHECKS.due("P26 save", 2, x.save(1));
        x.undo();
        CHECKS.that("P26 what is remembered stays", Scores.seen(x).equals(first));
        x.write(0, 0, 11);
        CHECKS.due("P26 once more", 3, x.save(0));
        x.write(0, 0, 12);
        x.restore(0);
        CHECKS.due("P26 the later one", 11, x.cell(0, 0, false));
    }

    private static void restore() {
        HandSpans x = Scores.of("M20330==-20=");
        x.set(0, 7);
        x.set(5, 1);
        String saved = Scores.seen(x);
        x.save(1);
        x.removeBeat(2);
        x.staff(true);
        x.set(0, 8);
        x.set(4, 0);
        CHECKS.due("P27 restore", 3, x.restore(1));
        CHECKS.that("P27 music and settings", Scores.seen(x).equals(saved));
        x.write(0, 0, 1);
        x.set(1, 1);
        CHECKS.due("P27 once more", 3, x.restore(1));
        CHECKS.that("P27 the slot keeps it", Scores.seen(x).equals(saved));
        CHECKS.due("P27 the text stays", 12, x.clearText());
    }

    private static void restoreForgets() {
        HandSpans x = Scores.of("M10130");
        x.save(0);
        x.write(0, 0, 1);
        String before = Scores.seen(x);
        CHECKS.refused("P27 nothing saved", STATE, () -> x.restore(1));
        CHECKS.refused("P27 slot -1", INDEX, () -> x.restore(-1));
        CHECKS.refused("P27 slot 2", INDEX, () -> x.restore(2));
        CHECKS.that("P27 nothing changed", Scores.seen(x).equals(before));
        CHECKS.due("P27 what is remembered stays", 0, x.undo());
        x.write(0, 0, 1);
        CHECKS.due("P27 restore", 1, x.restore(0));
        CHECKS.refused("P27 forgets what is remembered", STATE, x::undo);
        x.write(0, 0, 5);
        CHECKS.due("P27 what comes then is remembered", 0, x.undo());
        CHECKS.due("P27 the note that was saved", 30, x.cell(0, 0, false));
        x.save(1);
        x.load();
        CHECKS.refused("P27 load empties slot 0", STATE, () -> x.restore(0));
        CHECKS.refused("P27 load empties slot 1", STATE, () -> x.restore(1));
    }
}
