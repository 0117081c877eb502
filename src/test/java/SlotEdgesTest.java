/** Promises 26 and 27: each sentence that names an edge, with the case just inside it and the one just outside. */
public final class SlotEdgesTest {
    private static final Checks CHECKS = new Checks();
    private static final Class<IllegalStateException> STATE = IllegalStateException.class;
    private static final Class<IndexOutOfBoundsException> INDEX = IndexOutOfBoundsException.class;
    private static final int[] NO_SLOTS = {-1, 2, 3, Integer.MIN_VALUE, Integer.MAX_VALUE};
    private static final String SMALL = "M20230=4044";
    private static final String FULL_SCORE = "M416" + "60".repeat(64);

    public static void main(String[] args) {
        slotsToSaveIn();
        savedBeats();
        savedAgain();
        saveChangesNothingElse();
        savedStateStays();
        slotsToRestore();
        nothingSaved();
        nothingSavedSinceLoad();
        restoreReplacesAll();
        restoreForgets();
        slotKeepsIt();
        otherSlot();
        CHECKS.close();
    }

    // ---- promise 26

    private static void slotsToSaveIn() {
        CHECKS.sentence("P26", "Throws IndexOutOfBoundsException if there is no such save slot");
        for (int slot : NO_SLOTS) {
            CHECKS.refusedIn(SMALL, "save(" + slot + ")", INDEX, x -> x.save(slot));
            CHECKS.refusedBy(HandSpans::new, "save(" + slot + ")", INDEX, x -> x.save(slot));
        }
        CHECKS.sentence("P26", "slot: 0 or 1");
        for (int slot = 0; slot < 2; slot++) {
            HandSpans x = Scores.of(SMALL);
            CHECKS.due("save(" + slot + ")", 2, x.save(slot));
            CHECKS.due("restore(" + slot + ")", 2, x.restore(slot));
            int other = 1 - slot;
            CHECKS.refused("restore of the other one", STATE, () -> x.restore(other));
        }
    }

    private static void savedBeats() {
        CHECKS.sentence("P26", "Returns the number of beats.");
        CHECKS.due("one", 1, new HandSpans().save(0));
        CHECKS.due("one of four staves", 1, Scores.of("M401----").save(1));
        CHECKS.due("16", 16, Scores.of(FULL_SCORE).save(1));
        HandSpans x = Scores.of(FULL_SCORE);
        x.removeBeat(0);
        CHECKS.due("15", 15, x.save(0));
    }

    private static void savedAgain() {
        CHECKS.sentence("P26", "Stores the present state in a save slot: in place of an earlier one");
        HandSpans x = Scores.of(FULL_SCORE);
        x.save(0);
        x.staff(false);
        x.removeBeat(15);
        x.set(0, 3);
        CHECKS.due("save again", 15, x.save(0));
        x.set(0, 4);
        CHECKS.due("restore", 15, x.restore(0));
        CHECKS.due("the later one", "M315" + "60".repeat(45) + " 3 12 5 3 1 0", Scores.seen(x));
    }

    private static void saveChangesNothingElse() {
        CHECKS.sentence("ACTIONS AND UNDO", "Each call of one of them ... is an action: save is none");
        HandSpans x = Scores.full(SMALL);
        HandSpans other = Scores.full(SMALL);
        x.save(1);
        x.save(0);
        CHECKS.due("what is remembered", Scores.undoAll(other), Scores.undoAll(x));
        CHECKS.due("the oldest state", Scores.seen(other), Scores.seen(x));
        CHECKS.due("the text", other.clearText(), x.clearText());
        HandSpans first = Scores.of(SMALL);
        first.save(0);
        CHECKS.refused("undo", STATE, first::undo);
    }

    private static void savedStateStays() {
        CHECKS.sentence("P26", "Stores the present state: what comes later does not change it");
        HandSpans x = Scores.of(SMALL);
        x.save(0);
        x.write(0, 0, 1);
        x.set(5, 1);
        x.exchange(0, 1);
        x.staff(true);
        x.insertBeat(0);
        x.undo();
        x.undo();
        x.restore(0);
        CHECKS.due("what was saved", SMALL + " 12 12 5 3 1 0", Scores.seen(x));
    }

    // ---- promise 27

    private static void slotsToRestore() {
        CHECKS.sentence("P27", "Throws IndexOutOfBoundsException if there is no such save slot");
        for (int slot : NO_SLOTS) {
            CHECKS.refusedIn(SMALL, "restore(" + slot + ")", INDEX, x -> x.restore(slot));
            CHECKS.sentence("EXCEPTIONS", "If several exceptions apply to a call, the one that its description "
                    + "names first is thrown: restore");
            CHECKS.refusedBy(HandSpans::new, "restore(" + slot + ")", INDEX, x -> x.restore(slot));
        }
    }

    private static void nothingSaved() {
        CHECKS.sentence("P27", "Throws IllegalStateException if nothing has been saved in it");
        for (int i = 0; i < 2; i++) {
            int slot = i;
            CHECKS.refusedBy(HandSpans::new, "restore(" + slot + ")", STATE, x -> x.restore(slot));
            CHECKS.refusedBy(() -> Scores.of(SMALL), "restore(" + slot + ")", STATE, x -> x.restore(slot));
            CHECKS.refusedBy(() -> savedAndActed(1 - slot), "restore(" + slot + ")", STATE, x -> x.restore(slot));
        }
    }

    private static HandSpans savedAndActed(int slot) {
        HandSpans x = Scores.of(SMALL);
        x.save(slot);
        x.write(0, 0, 31);
        x.write(0, 0, 32);
        return x;
    }

    private static void nothingSavedSinceLoad() {
        CHECKS.sentence("P27", "Throws IllegalStateException if nothing has been saved in it since the last load");
        for (int i = 0; i < 2; i++) {
            int slot = i;
            CHECKS.refusedBy(() -> loadedAgain(), "restore(" + slot + ")", STATE, x -> x.restore(slot));
            HandSpans x = loadedAgain();
            x.save(slot);
            CHECKS.due("saved since", 3, x.restore(slot));
        }
        HandSpans wrong = Scores.full(SMALL, "M10");
        CHECKS.refused("load of a wrong text", STATE, wrong::load);
        CHECKS.due("it empties no slot", 2, wrong.restore(0));
        CHECKS.due("it empties no slot", 2, wrong.restore(1));
    }

    private static HandSpans loadedAgain() {
        HandSpans x = Scores.full(SMALL);
        x.load();
        x.write(0, 0, 31);
        return x;
    }

    private static void restoreReplacesAll() {
        CHECKS.sentence("P27", "Replaces the state by the one in a save slot ... Returns the number of beats "
                + "then.");
        HandSpans small = new HandSpans();
        small.save(1);
        small.staff(true);
        small.insertBeat(0);
        small.write(1, 1, 60);
        small.set(2, 1);
        CHECKS.due("one beat", 1, small.restore(1));
        CHECKS.due("music and settings", "M101- 12 12 5 3 1 0", Scores.seen(small));
        HandSpans great = Scores.of(FULL_SCORE);
        set(great, 1, 24, 1, 9, 0, 1);
        great.save(1);
        great.clearText();
        Scores.type(great, "M101-");
        for (int i = 0; i < 3; i++) {
            great.staff(false);
        }
        for (int b = 15; b > 0; b--) {
            great.removeBeat(b);
        }
        set(great, 2, 2, 2, 1, 1, 0);
        CHECKS.due("16 beats", 16, great.restore(1));
        CHECKS.due("music and settings", FULL_SCORE + " 1 24 1 9 0 1", Scores.seen(great));
        CHECKS.due("the text stays", 5, great.clearText());
    }

    private static void set(HandSpans x, int... settings) {
        for (int what = 0; what < settings.length; what++) {
            x.set(what, settings[what]);
        }
    }

    private static void restoreForgets() {
        CHECKS.sentence("P27", "and forgets all remembered states");
        for (int actions = 0; actions <= 16; actions++) {
            HandSpans x = Scores.of("M10100");
            x.save(0);
            for (int v = 1; v <= actions; v++) {
                x.write(0, 0, v);
            }
            CHECKS.due("restore behind " + actions, 1, x.restore(0));
            CHECKS.refused("undo", STATE, x::undo);
            x.write(0, 0, 50);
            CHECKS.due("the first action behind it", 0, x.undo());
            CHECKS.due("is taken back", 0, x.cell(0, 0, false));
        }
        CHECKS.sentence("ACTIONS AND UNDO", "load and restore are not actions.");
        HandSpans same = Scores.of(SMALL);
        same.save(1);
        same.restore(1);
        CHECKS.refused("undo", STATE, same::undo);
    }

    private static void slotKeepsIt() {
        CHECKS.sentence("P27", "The save slot keeps it.");
        HandSpans x = Scores.of(SMALL);
        x.save(0);
        for (int i = 0; i < 3; i++) {
            CHECKS.due("restore", 2, x.restore(0));
            CHECKS.due("what was saved", SMALL + " 12 12 5 3 1 0", Scores.seen(x));
            x.write(0, 0, i);
            x.set(i, 2);
            x.removeBeat(0);
        }
        CHECKS.due("restore", 2, x.restore(0));
        CHECKS.due("and once more", 2, x.restore(0));
        CHECKS.due("what was saved", SMALL + " 12 12 5 3 1 0", Scores.seen(x));
    }

    private static void otherSlot() {
        CHECKS.sentence("P27", "Replaces the state by the one in a save slot: the other one is another");
        HandSpans x = Scores.of(SMALL);
        x.save(0);
        x.removeBeat(1);
        x.set(0, 1);
        x.save(1);
        CHECKS.due("slot 0", 2, x.restore(0));
        CHECKS.due("slot 0", SMALL + " 12 12 5 3 1 0", Scores.seen(x));
        CHECKS.due("slot 1", 1, x.restore(1));
        CHECKS.due("slot 1", "M2013040 1 12 5 3 1 0", Scores.seen(x));
        CHECKS.due("slot 0 again", 2, x.restore(0));
        CHECKS.due("slot 0 again", SMALL + " 12 12 5 3 1 0", Scores.seen(x));
    }
}
