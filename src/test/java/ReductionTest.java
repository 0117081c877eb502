/** Promises 16 to 19: notes, hands, beats and the whole; the numbers are worked out by hand from the document. */
public final class ReductionTest {
    private static final Checks CHECKS = new Checks();
    private static final Class<IllegalArgumentException> ARGUMENT = IllegalArgumentException.class;
    private static final Class<IndexOutOfBoundsException> INDEX = IndexOutOfBoundsException.class;
    private static final int NONE = HandSpans.NONE;

    public static void main(String[] args) {
        oneChord();
        samePitchBeforeOctave();
        onlyKeptNotesCount();
        unplayable();
        equalPitches();
        fingers();
        spansAndRolls();
        holdsAreNotRolled();
        cutByTheOtherHand();
        cutBehindALeftOutNote();
        heldNote();
        moves();
        firstBeatByBeat();
        wholeWay();
        smallestSplitFirst();
        refused();
        CHECKS.close();
    }

    private static void note(HandSpans x, int s, int b, int... want) {
        for (int what = 0; what < 4; what++) {
            CHECKS.due("P16 note(" + s + "," + b + "," + what + ")", want[what], x.note(s, b, what));
        }
    }

    private static void hand(HandSpans x, int h, int b, int... want) {
        for (int what = 0; what < 5; what++) {
            CHECKS.due("P17 hand(" + h + "," + b + "," + what + ")", want[what], x.hand(h, b, what));
        }
    }

    private static void beat(HandSpans x, int b, int... want) {
        for (int what = 0; what < 5; what++) {
            CHECKS.due("P18 beat(" + b + "," + what + ")", want[what], x.beat(b, what));
        }
    }

    private static void whole(HandSpans x, int... want) {
        for (int what = 0; what < 8; what++) {
            CHECKS.due("P19 whole(" + what + ")", want[what], x.whole(what));
        }
    }

    private static void oneChord() {
        HandSpans x = Scores.of("M40140283320");
        note(x, 0, 0, 1, 0, 1, 0);
        note(x, 1, 0, NONE, 2, NONE, 0);
        note(x, 2, 0, 1, 0, 1, 0);
        note(x, 3, 0, 0, 0, 1, 0);
        hand(x, 0, 0, 1, 20, 0, 0, 0);
        hand(x, 1, 0, 2, 33, 7, 0, 0);
        beat(x, 0, 1, 2, 0, 3, 6);
        whole(x, 0, 0, 1, 0, 0, 0, 0, 3);
        x.set(4, 0);
        beat(x, 0, 1, 3, 0, 4, 14);
        whole(x, 0, 0, 0, 0, 0, 0, 0, 4);
        x.write(1, 0, -1);
        note(x, 1, 0, NONE, NONE, NONE, NONE);
    }

    private static void samePitchBeforeOctave() {
        HandSpans x = Scores.of("M301402828");
        note(x, 1, 0, NONE, 1, NONE, 0);
        whole(x, 0, 1, 0, 0, 0, 0, 0, 2);
        x.set(4, 0);
        CHECKS.due("P16 the octave rule does not matter for it", 1, x.note(1, 0, 1));
        HandSpans two = Scores.of("M301522816");
        CHECKS.due("P16 two octaves above, one below", 2, two.note(1, 0, 1));
        two.set(4, 0);
        CHECKS.due("P16 no octave rule", 0, two.note(1, 0, 1));
        HandSpans outer = Scores.of("M2014040");
        whole(outer, 0, 0, 0, 0, 0, 0, 0, 2);
    }

    private static void onlyKeptNotesCount() {
        HandSpans x = Scores.of("M40140282821");
        CHECKS.due("P16 the first is an octave below", 2, x.note(1, 0, 1));
        CHECKS.due("P16 the second, too: the first is not kept", 2, x.note(2, 0, 1));
        x.set(4, 0);
        CHECKS.due("P16 the first is kept", 0, x.note(1, 0, 1));
        CHECKS.due("P16 the second is like it", 1, x.note(2, 0, 1));
        HandSpans later = Scores.of("M401-2840-");
        CHECKS.due("P16 a later inner note does not matter", 0, later.note(1, 0, 1));
        CHECKS.due("P16 an inner note counts as the others do", 2, later.note(2, 0, 1));
        HandSpans bass = Scores.of("M401-20-32");
        CHECKS.due("P16 the bass comes before the inner staves", 2, bass.note(1, 0, 1));
    }

    private static void unplayable() {
        HandSpans x = Scores.of("M40150483010");
        x.set(0, 5);
        x.set(1, 5);
        x.set(3, 0);
        CHECKS.due("P16 the greatest inner staff goes", 3, x.note(2, 0, 1));
        CHECKS.due("P16 the other one can stay then", 0, x.note(1, 0, 1));
        beat(x, 0, 1, 1, 0, 3, 2);
        HandSpans other = Scores.of("M40150304810");
        other.set(0, 5);
        other.set(1, 5);
        other.set(3, 0);
        CHECKS.due("P16 it goes first though the other is at fault", 3, other.note(2, 0, 1));
        CHECKS.due("P16 the other goes as well", 3, other.note(1, 0, 1));
        whole(other, 0, 0, 0, 2, 0, 0, 0, 2);
        HandSpans doubled = Scores.of("M40150303010");
        doubled.set(2, 1);
        CHECKS.due("P16 a doubling stays out", 1, doubled.note(2, 0, 1));
        CHECKS.due("P16 though its like goes, too", 3, doubled.note(1, 0, 1));
        whole(doubled, 0, 1, 0, 1, 0, 0, 0, 2);
    }

    private static void equalPitches() {
        HandSpans x = Scores.of("M2013030");
        beat(x, 0, 0, 3, 0, 2, 7);
        x.set(2, 1);
        beat(x, 0, 1, 1, 0, 2, 2);
        CHECKS.due("P16 of equal ones the greater staff is the lower one", 0, x.note(1, 0, 0));
        CHECKS.due("P16 the lesser one the higher one", 1, x.note(0, 0, 0));
        HandSpans crossed = Scores.of("M2012040");
        crossed.set(2, 1);
        CHECKS.due("P16 pitch comes before staff", 0, crossed.note(0, 0, 0));
        CHECKS.due("P16 pitch comes before staff", 1, crossed.note(1, 0, 0));
    }

    private static void fingers() {
        HandSpans x = Scores.of("M40130333537");
        beat(x, 0, 0, 5, 0, 4, 31);
        x.set(2, 3);
        beat(x, 0, 1, 3, 0, 4, 14);
        x.set(2, 2);
        beat(x, 0, 2, 1, 0, 4, 4);
        x.set(2, 1);
        beat(x, 0, 1, 1, 0, 2, 2);
        CHECKS.due("P19 both inner notes go", 2, x.whole(3));
    }

    private static void spansAndRolls() {
        HandSpans x = Scores.of("M2014026");
        x.set(0, 10);
        beat(x, 0, 1, 2, 0, 2, 3);
        x.set(2, 2);
        x.set(1, 11);
        x.set(3, 3);
        beat(x, 0, 1, 2, 0, 2, 3);
        x.set(1, 10);
        beat(x, 0, 1, 1, 0, 2, 2);
        x.set(0, 11);
        beat(x, 0, 1, 2, 0, 2, 6);
        x.set(3, 2);
        beat(x, 0, 1, 1, 0, 2, 2);
        HandSpans three = Scores.of("M301463020");
        three.set(0, 9);
        three.set(1, 14);
        three.set(3, 1);
        beat(three, 0, 2, 1, 5, 3, 4);
        hand(three, 0, 0, 2, 20, 10, 1, 0);
        hand(three, 1, 0, 1, 46, 0, 0, 0);
        whole(three, 5, 0, 0, 0, 0, 1, 0, 3);
        three.set(1, 16);
        beat(three, 0, 1, 2, 0, 3, 6);
        three.set(1, 15);
        three.set(0, 8);
        beat(three, 0, 1, 1, 5, 3, 2);
        hand(three, 1, 0, 2, 30, 16, 1, 0);
        HandSpans both = Scores.of("M40140303320");
        both.set(4, 0);
        both.set(0, 9);
        both.set(1, 6);
        both.set(3, 1);
        beat(both, 0, 2, 1, 10, 4, 4);
        CHECKS.due("P19 both hands are rolled", 2, both.whole(5));
    }

    private static void holdsAreNotRolled() {
        HandSpans x = Scores.of("M20240=2626");
        beat(x, 0, 1, 3, 0, 2, 7);
        beat(x, 1, 1, 1, 0, 2, 2);
        HandSpans other = Scores.of("M30250=28281414");
        beat(other, 1, 2, 1, 5, 3, 4);
        CHECKS.due("P17 only a hold of its own keeps a hand from rolling", 1, other.hand(0, 1, 3));
        HandSpans leftOut = Scores.of("M302404028=2626");
        beat(leftOut, 1, 1, 3, 0, 2, 7);
        CHECKS.due("P18 a hold that is left out does not matter", 2, leftOut.whole(2));
        HandSpans bass = Scores.of("M3025050282820=");
        bass.set(0, 7);
        bass.set(3, 1);
        beat(bass, 0, 2, 1, 5, 3, 4);
        CHECKS.due("P16 the inner note at a hold goes", 3, bass.note(1, 1, 1));
        HandSpans cut = Scores.of("M302404540=2020");
        cut.set(0, 20);
        cut.set(1, 4);
        cut.set(3, 1);
        beat(cut, 1, 2, 1, 15, 3, 4);
        CHECKS.due("P16 its tie is cut", 1, cut.note(1, 1, 3));
        cut.set(0, 19);
        beat(cut, 1, 1, 1, 5, 2, 2);
        CHECKS.due("P16 a hold is one also if its tie would be cut", 3, cut.note(1, 1, 1));
    }

    private static void cutByTheOtherHand() {
        HandSpans x = Scores.of("M20240=2050");
        x.set(2, 1);
        note(x, 0, 0, 1, 0, 1, 0);
        note(x, 0, 1, 0, 0, 1, 1);
        note(x, 1, 1, 1, 0, 1, 0);
        hand(x, 0, 1, 1, 40, 0, 0, 20);
        hand(x, 1, 1, 1, 50, 0, 0, 10);
        beat(x, 1, 1, 1, 40, 2, 2);
        whole(x, 40, 0, 0, 0, 1, 0, 30, 4);
    }

    private static void cutBehindALeftOutNote() {
        HandSpans x = Scores.of("M302404540=2020");
        note(x, 1, 0, NONE, 1, NONE, 0);
        note(x, 1, 1, 1, 0, 1, 1);
        beat(x, 1, 1, 1, 10, 3, 2);
        whole(x, 10, 1, 0, 0, 1, 0, 0, 5);
        HandSpans still = Scores.of("M302404040=2020");
        note(still, 1, 1, NONE, 1, NONE, 0);
        whole(still, 0, 2, 0, 0, 0, 0, 0, 4);
    }

    private static void heldNote() {
        HandSpans x = Scores.of("M10340==");
        for (int b = 0; b < 3; b++) {
            note(x, 0, b, 1, 0, b == 0 ? 1 : 0, 0);
            beat(x, b, 0, 2, 0, 1, 3);
        }
        whole(x, 0, 0, 0, 0, 0, 0, 0, 1);
    }

    private static void moves() {
        HandSpans x = Scores.of("M2044051-303010--");
        x.set(2, 1);
        hand(x, 0, 0, 1, 30, 0, 0, 0);
        CHECKS.due("P17 none in beat 0", 0, x.hand(0, 0, 4));
        hand(x, 0, 1, 1, 10, 0, 0, 20);
        hand(x, 1, 1, 1, 51, 0, 0, 11);
        hand(x, 0, 2, 0, NONE, 0, 0, 0);
        hand(x, 1, 2, 0, NONE, 0, 0, 0);
        beat(x, 2, 0, 1, 0, 0, 1);
        hand(x, 1, 3, 1, 30, 0, 0, 0);
        whole(x, 31, 0, 0, 0, 0, 0, 31, 5);
    }

    private static void firstBeatByBeat() {
        HandSpans x = Scores.of("M2022050-20");
        beat(x, 0, 0, 2, 0, 1, 3);
        beat(x, 1, 1, 1, 30, 2, 2);
        whole(x, 30, 0, 0, 0, 0, 0, 30, 3);
    }

    private static void wholeWay() {
        HandSpans x = Scores.of("M2022050-20");
        x.set(5, 1);
        beat(x, 0, 1, 2, 0, 1, 3);
        beat(x, 1, 1, 1, 0, 2, 2);
        whole(x, 0, 0, 0, 0, 0, 0, 0, 3);
        CHECKS.due("P16 the left hand prepares", 0, x.note(0, 0, 0));
        HandSpans held = Scores.of("M20320=50--20");
        beat(held, 1, 0, 2, 0, 1, 3);
        whole(held, 30, 0, 0, 0, 0, 0, 30, 3);
        held.set(5, 1);
        beat(held, 0, 1, 2, 0, 1, 3);
        beat(held, 1, 1, 2, 0, 1, 3);
        whole(held, 0, 0, 0, 0, 0, 0, 0, 3);
    }

    private static void smallestSplitFirst() {
        HandSpans x = Scores.of("M1042020-20");
        for (int mode = 0; mode < 2; mode++) {
            x.set(5, mode);
            for (int b = 0; b < 4; b++) {
                CHECKS.due("P18 the smallest of equal ones", 0, x.beat(b, 0));
            }
        }
        HandSpans y = Scores.of("M1022021");
        beat(y, 1, 1, 2, 0, 1, 3);
        y.set(5, 1);
        beat(y, 0, 0, 2, 0, 1, 3);
        beat(y, 1, 1, 2, 0, 1, 3);
    }

    private static void refused() {
        HandSpans x = Scores.of("M2032050=-20-");
        for (int what : new int[] {-1, 8, 4, 5, Integer.MIN_VALUE, Integer.MAX_VALUE}) {
            if (what != 4 && what != 5) {
                CHECKS.refused("P19 whole", ARGUMENT, () -> x.whole(what));
            }
            if (what != 4) {
                CHECKS.refused("P17 hand", ARGUMENT, () -> x.hand(0, 0, what));
                CHECKS.refused("P18 beat", ARGUMENT, () -> x.beat(0, what));
            }
            CHECKS.refused("P16 note", ARGUMENT, () -> x.note(0, 0, what));
            CHECKS.refused("P16 note of a rest", ARGUMENT, () -> x.note(1, 0, what));
            for (int[] at : new int[][] {{-1, 0}, {2, 0}, {0, -1}, {0, 3}}) {
                CHECKS.refused("P16 note, place first", INDEX, () -> x.note(at[0], at[1], what));
                CHECKS.refused("P17 hand, place first", INDEX, () -> x.hand(at[0], at[1], what));
            }
            CHECKS.refused("P18 beat, place first", INDEX, () -> x.beat(-1, what));
            CHECKS.refused("P18 beat, place first", INDEX, () -> x.beat(3, what));
        }
        CHECKS.that("nothing changed", Scores.seen(x).startsWith("M2032050=-20- 12"));
        CHECKS.due("nothing to undo", 0, Scores.undoAll(x));
    }
}
