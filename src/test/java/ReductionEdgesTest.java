/** Promises 16 to 19, with the descriptions of notes and splits: each sentence with an edge, inside it and outside. */
public final class ReductionEdgesTest {
    private static final Checks CHECKS = new Checks();
    private static final Class<IllegalArgumentException> ARGUMENT = IllegalArgumentException.class;
    private static final Class<IndexOutOfBoundsException> INDEX = IndexOutOfBoundsException.class;
    private static final int NONE = -9;
    private static final int LEAST = Integer.MIN_VALUE;
    private static final int MOST = Integer.MAX_VALUE;
    private static final int SPAN_LEFT = 0;
    private static final int SPAN_RIGHT = 1;
    private static final int FINGERS = 2;
    private static final int REACH = 3;
    private static final int OCTAVES = 4;
    private static final int MODE = 5;
    private static final String FULL_SCORE = "M416" + "60".repeat(64);

    public static void main(String[] args) {
        melodyBassAndInnerStaves();
        order();
        outerStavesAreKept();
        holdsAreNotes();
        samePitchAndOctaves();
        samePitchFirst();
        keptBefore();
        orderOfKeptNotes();
        splits();
        allToTheLeft();
        fingers();
        spansOfTwoNotes();
        leftHandRolls();
        rightHandRolls();
        handsWithHolds();
        holdOfTheOtherHand();
        holdWithACutTie();
        leftOutForReasonThree();
        doublingsStayOut();
        alwaysASplit();
        cutBehindLeftOutNotes();
        cutByTheOtherHand();
        cutWhereTheSplitIsAnother();
        notCut();
        positions();
        moves();
        noMoves();
        costs();
        beatByBeat();
        forTheWhole();
        smallestSplitsFirst();
        askedAgain();
        notePlaces();
        noteNumbers();
        handPlaces();
        handNumbers();
        beatPlaces();
        beatNumbers();
        wholeRange();
        wholeCounts();
        CHECKS.close();
    }

    private static String two(int pitch) {
        return "" + pitch / 10 + pitch % 10;
    }

    private static HandSpans with(String music, int... settings) {
        HandSpans x = Scores.of(music);
        for (int i = 0; i + 1 < settings.length; i += 2) {
            x.set(settings[i], settings[i + 1]);
        }
        return x;
    }

    private static void reasons(HandSpans x, int b, int... want) {
        String seen = Scores.seen(x);
        for (int s = 0; s < want.length; s++) {
            CHECKS.due(seen + ", note(" + s + "," + b + ",1)", want[s], x.note(s, b, 1));
        }
    }

    private static void note(HandSpans x, int s, int b, int... want) {
        String seen = Scores.seen(x);
        for (int what = 0; what < 4; what++) {
            CHECKS.due(seen + ", note(" + s + "," + b + "," + what + ")", want[what], x.note(s, b, what));
        }
    }

    private static void hand(HandSpans x, int h, int b, int... want) {
        String seen = Scores.seen(x);
        for (int what = 0; what < 5; what++) {
            CHECKS.due(seen + ", hand(" + h + "," + b + "," + what + ")", want[what], x.hand(h, b, what));
        }
    }

    private static void beat(HandSpans x, int b, int... want) {
        String seen = Scores.seen(x);
        for (int what = 0; what < 5; what++) {
            CHECKS.due(seen + ", beat(" + b + "," + what + ")", want[what], x.beat(b, what));
        }
    }

    // ---- notes of a beat

    private static void melodyBassAndInnerStaves() {
        CHECKS.sentence("MUSIC", "Staff 0 is the melody; the last staff, if there are two or more, is the bass; "
                + "the others are inner staves.");
        reasons(with("M10130"), 0, 0);
        reasons(with("M2013030"), 0, 0, 0);
        reasons(with("M301303030"), 0, 0, 1, 0);
        reasons(with("M40130303030"), 0, 0, 1, 1, 0);
        reasons(with("M30130-30"), 0, 0, NONE, 0);
        reasons(with("M3013030-"), 0, 0, 1, NONE);
        reasons(with("M301-3030"), 0, NONE, 1, 0);
    }

    private static void order() {
        CHECKS.sentence("NOTES OF A BEAT", "gone through in this order: melody, bass, then the inner staves, "
                + "ascending");
        reasons(with("M40144333330"), 0, 0, 0, 1, 0);
        reasons(with("M40142334530"), 0, 0, 0, 2, 0);
        reasons(with("M40142453330"), 0, 0, 0, 2, 0);
        reasons(with("M401-3333-"), 0, NONE, 0, 1, NONE);
        reasons(with("M301402020"), 0, 0, 1, 0);
        reasons(with("M301502210"), 0, 0, 2, 0);
        reasons(with("M301-2210"), 0, NONE, 2, 0);
        reasons(with("M301-2222"), 0, NONE, 1, 0);
        reasons(with("M3012222-"), 0, 0, 1, NONE);
    }

    private static void outerStavesAreKept() {
        CHECKS.sentence("NOTES OF A BEAT", "The melody and the bass are kept.");
        for (String music : new String[] {"M2013030", "M2013042", "M2014230", "M2010060", "M2016000", "M2010000"}) {
            reasons(with(music), 0, 0, 0);
            reasons(with(music, SPAN_LEFT, 1, SPAN_RIGHT, 1, FINGERS, 1, REACH, 0), 0, 0, 0);
        }
        reasons(with("M40160204000", SPAN_LEFT, 1, SPAN_RIGHT, 1, FINGERS, 1, REACH, 0), 0, 0, 3, 3, 0);
        reasons(with("M40130303030", SPAN_LEFT, 1, SPAN_RIGHT, 1, FINGERS, 1, REACH, 0), 0, 0, 1, 1, 0);
    }

    private static void holdsAreNotes() {
        CHECKS.sentence("NOTES OF A BEAT", "the pitches of all its cells that are no rests");
        reasons(with("M30240=504020="), 1, 0, 1, 0);
        reasons(with("M302405050=20="), 1, 0, 1, 0);
        reasons(with("M30230=504220="), 1, 0, 2, 0);
        CHECKS.due("kept notes", 2, with("M30240=504020=").beat(1, 3));
        CHECKS.due("kept notes with rests", 1, with("M302--5040--").beat(1, 3));
        CHECKS.due("no notes", 0, with("M302-30----").beat(0, 3));
    }

    private static int doubling(int apart, boolean octaves) {
        return apart == 0 ? 1 : octaves && apart % 12 == 0 ? 2 : 0;
    }

    private static void samePitchAndOctaves() {
        CHECKS.sentence("NOTES OF A BEAT", "the reason 1 if a note that was kept before has the same pitch; "
                + "otherwise for the reason 2 if the octave rule is on, and ... differs by 12, 24, and so on");
        for (int outer = 0; outer <= 60; outer += 15) {
            for (int inner = 0; inner <= 60; inner++) {
                for (int rule = 0; rule < 2; rule++) {
                    int want = doubling(outer > inner ? outer - inner : inner - outer, rule == 1);
                    reasons(with("M301" + two(outer) + two(inner) + "-", OCTAVES, rule), 0, 0, want, NONE);
                    reasons(with("M301-" + two(inner) + two(outer), OCTAVES, rule), 0, NONE, want, 0);
                    reasons(with("M401-" + two(outer) + two(inner) + "-", OCTAVES, rule), 0, NONE, 0, want, NONE);
                }
            }
        }
    }

    private static void samePitchFirst() {
        CHECKS.sentence("NOTES OF A BEAT", "reason 1 ...; otherwise for the reason 2");
        reasons(with("M301402828"), 0, 0, 1, 0);
        reasons(with("M301282840"), 0, 0, 1, 0);
        reasons(with("M301282816"), 0, 0, 1, 0);
        reasons(with("M301402828", OCTAVES, 0), 0, 0, 1, 0);
        reasons(with("M301402816"), 0, 0, 2, 0);
        reasons(with("M301402816", OCTAVES, 0), 0, 0, 0, 0);
        reasons(with("M401503030-"), 0, 0, 0, 1, NONE);
        reasons(with("M40142302918"), 0, 0, 2, 0, 0);
    }

    private static void keptBefore() {
        CHECKS.sentence("NOTES OF A BEAT", "a note that was kept before: one that was left out does not count");
        reasons(with("M40140282821"), 0, 0, 2, 2, 0);
        reasons(with("M40140282821", OCTAVES, 0), 0, 0, 0, 1, 0);
        reasons(with("M40140402821"), 0, 0, 1, 2, 0);
        CHECKS.sentence("NOTES OF A BEAT", "before: one that comes later does not count");
        reasons(with("M401-2840-"), 0, NONE, 0, 2, NONE);
        reasons(with("M401-4028-"), 0, NONE, 0, 2, NONE);
    }

    // ---- splits and hands

    private static void orderOfKeptNotes() {
        CHECKS.sentence("NOTES OF A BEAT", "ordered by pitch, the lowest one first; of equal ones that of the "
                + "greater staff comes first");
        HandSpans equal = with("M2013030", FINGERS, 1);
        note(equal, 0, 0, 1, 0, 1, 0);
        note(equal, 1, 0, 0, 0, 1, 0);
        HandSpans four = with("M40130204030", FINGERS, 2);
        note(four, 1, 0, 0, 0, 1, 0);
        note(four, 3, 0, 0, 0, 1, 0);
        note(four, 0, 0, 1, 0, 1, 0);
        note(four, 2, 0, 1, 0, 1, 0);
        HandSpans above = with("M2013031", FINGERS, 1);
        note(above, 0, 0, 0, 0, 1, 0);
        note(above, 1, 0, 1, 0, 1, 0);
        HandSpans below = with("M2013130", FINGERS, 1);
        note(below, 0, 0, 1, 0, 1, 0);
        note(below, 1, 0, 0, 0, 1, 0);
        HandSpans inner = with("M40133323130", FINGERS, 2);
        int[] hands = {1, 1, 0, 0};
        for (int s = 0; s < 4; s++) {
            note(inner, s, 0, hands[s], 0, 1, 0);
        }
    }

    private static void splits() {
        CHECKS.sentence("NOTES OF A BEAT", "A split k gives the first k of them to the left hand ..., the others "
                + "to the right hand: k from 0 to the number of kept notes");
        beat(with("M101-"), 0, 0, 1, 0, 0, 1);
        beat(with("M10130"), 0, 0, 2, 0, 1, 3);
        beat(with("M2013031"), 0, 0, 3, 0, 2, 7);
        beat(with("M301303132"), 0, 0, 4, 0, 3, 15);
        beat(with("M40130313233"), 0, 0, 5, 0, 4, 31);
        HandSpans none = with("M40130313233");
        hand(none, 0, 0, 0, NONE, 0, 0, 0);
        hand(none, 1, 0, 4, 30, 3, 0, 0);
        HandSpans one = with("M301602010");
        hand(one, 0, 0, 2, 10, 10, 0, 0);
        hand(one, 1, 0, 1, 60, 0, 0, 0);
    }

    private static void allToTheLeft() {
        CHECKS.sentence("NOTES OF A BEAT", "A split k gives the first k of them to the left hand: all four");
        HandSpans x = with("M4023334313232333031");
        hand(x, 0, 0, 0, NONE, 0, 0, 0);
        beat(x, 1, 4, 5, 0, 4, 31);
        hand(x, 0, 1, 4, 31, 3, 0, 0);
        hand(x, 1, 1, 0, NONE, 0, 0, 0);
        for (int s = 0; s < 4; s++) {
            note(x, s, 1, 0, 0, 1, 0);
        }
    }

    private static void fingers() {
        CHECKS.sentence("NOTES OF A BEAT", "at most as many as it has fingers");
        int[] four = {2, 4, 14, 31, 31};
        int[] three = {2, 6, 15, 15, 15};
        int[] pair = {2, 7, 7, 7, 7};
        for (int fingers = 1; fingers <= 5; fingers++) {
            CHECKS.due("four notes", four[fingers - 1], with("M40130313233", FINGERS, fingers).beat(0, 4));
            CHECKS.due("three notes", three[fingers - 1], with("M301303132", FINGERS, fingers).beat(0, 4));
            CHECKS.due("two notes", pair[fingers - 1], with("M2013031", FINGERS, fingers).beat(0, 4));
            CHECKS.due("one note", 3, with("M10130", FINGERS, fingers).beat(0, 4));
            CHECKS.due("no note", 1, with("M101-", FINGERS, fingers).beat(0, 4));
            CHECKS.due("kept of four", fingers == 1 ? 2 : 4, with("M40130313233", FINGERS, fingers).beat(0, 3));
        }
        CHECKS.sentence("NOTES OF A BEAT", "at most as many as it has fingers with a width of at most its span "
                + "plus the reach of rolls");
        CHECKS.due("three notes, a width of 14", 15, with("M301301716", FINGERS, 3).beat(0, 4));
        CHECKS.due("two fingers for them", 6, with("M301301716", FINGERS, 2, SPAN_RIGHT, 13).beat(0, 4));
    }

    private static int splitsOfTwo(int width, int left, int right) {
        return (width <= right ? 1 : 0) + 2 + (width <= left ? 4 : 0);
    }

    private static void spansOfTwoNotes() {
        CHECKS.sentence("NOTES OF A BEAT", "its width is at most its span; or ... with a width of at most its "
                + "span plus the reach of rolls");
        int[] spans = {1, 2, 11, 12, 23, 24};
        for (int left : spans) {
            for (int right : spans) {
                for (int reach = 0; reach <= 9; reach += 3) {
                    HandSpans x = with("M2016060", SPAN_LEFT, left, SPAN_RIGHT, right, REACH, reach);
                    int[] widths = {0, 1, left, left + 1, left + reach, left + reach + 1, right, right + 1,
                        right + reach, right + reach + 1};
                    for (int width : widths) {
                        x.write(1, 0, 60 - width);
                        CHECKS.due(left + " " + right + " " + reach + " width " + width,
                                splitsOfTwo(width, left + reach, right + reach), x.beat(0, 4));
                    }
                }
            }
        }
    }

    private static void leftHandRolls() {
        CHECKS.sentence("NOTES OF A BEAT", "if its width is greater than its span, it is rolled: the left hand");
        for (int span = 1; span <= 24; span++) {
            for (int reach = 0; reach <= 9; reach++) {
                // The inner note is too far from the melody for the right hand: so the left one has it, or none.
                HandSpans x = with("M3016010-", OCTAVES, 0, SPAN_RIGHT, 1, SPAN_LEFT, span, REACH, reach);
                x.write(2, 0, 10);
                for (int width : new int[] {1, span, span + 1, span + reach, span + reach + 1}) {
                    x.write(1, 0, 10 + width);
                    oneHand(x, 0, width, span, reach);
                }
            }
        }
    }

    private static void rightHandRolls() {
        CHECKS.sentence("NOTES OF A BEAT", "if its width is greater than its span, it is rolled: the right hand");
        for (int span = 1; span <= 24; span++) {
            for (int reach = 0; reach <= 9; reach++) {
                HandSpans x = with("M3016060-", OCTAVES, 0, SPAN_LEFT, 1, SPAN_RIGHT, span, REACH, reach);
                x.write(2, 0, 10);
                for (int width : new int[] {1, span, span + 1, span + reach, span + reach + 1}) {
                    x.write(1, 0, 60 - width);
                    oneHand(x, 1, width, span, reach);
                }
            }
        }
    }

    private static void oneHand(HandSpans x, int h, int width, int span, int reach) {
        String what = "hand " + h + ", span " + span + ", reach " + reach + ", width " + width + ": ";
        boolean out = width > span + reach;
        boolean rolled = !out && width > span;
        CHECKS.due(what + "reason", out ? 3 : 0, x.note(1, 0, 1));
        CHECKS.due(what + "hand", out ? NONE : h, x.note(1, 0, 0));
        CHECKS.due(what + "split", out ? 2 : 4 >> h, x.beat(0, 4));
        CHECKS.due(what + "width", out ? 0 : width, x.hand(h, 0, 2));
        CHECKS.due(what + "rolled", rolled ? 1 : 0, x.hand(h, 0, 3));
        CHECKS.due(what + "the other hand", 0, x.hand(1 - h, 0, 3));
        CHECKS.due(what + "costs", rolled ? 5 : 0, x.beat(0, 2));
    }

    private static void handsWithHolds() {
        CHECKS.sentence("NOTES OF A BEAT", "or, if none of their cells is a hold");
        for (int span = 1; span <= 24; span++) {
            for (int width : new int[] {span, span + 1}) {
                String low = two(10 + width);
                String high = two(60 - width);
                String[] left = {"M30260" + "60" + low + "=1010", "M30260" + "60" + low + low + "10=",
                    "M30260" + "60" + low + "=10="};
                String[] right = {"M30260" + "60" + high + "=1010", "M30260=" + high + high + "1010",
                    "M30260=" + high + "=1010"};
                for (int i = 0; i < 3; i++) {
                    oneHeld(with(left[i], OCTAVES, 0, SPAN_RIGHT, 1, SPAN_LEFT, span), 0, width, span);
                    oneHeld(with(right[i], OCTAVES, 0, SPAN_LEFT, 1, SPAN_RIGHT, span), 1, width, span);
                }
            }
        }
    }

    private static void oneHeld(HandSpans x, int h, int width, int span) {
        String what = Scores.seen(x) + ", hand " + h + ": ";
        boolean out = width > span;
        CHECKS.due(what + "struck, it is rolled", out ? 1 : 0, x.hand(h, 0, 3));
        CHECKS.due(what + "reason at the hold", out ? 3 : 0, x.note(1, 1, 1));
        CHECKS.due(what + "splits at the hold", out ? 2 : 4 >> h, x.beat(1, 4));
        CHECKS.due(what + "no roll at the hold", 0, x.hand(h, 1, 3));
    }

    private static void holdOfTheOtherHand() {
        CHECKS.sentence("NOTES OF A BEAT", "none of their cells: a hold of the other hand, or one that is left "
                + "out, does not matter");
        HandSpans right = with("M30260=23231010", OCTAVES, 0, SPAN_RIGHT, 1);
        CHECKS.due("the left hand rolls below a hold", 1, right.hand(0, 1, 3));
        CHECKS.due("its note is kept", 0, right.note(1, 1, 1));
        HandSpans left = with("M3026060474710=", OCTAVES, 0, SPAN_LEFT, 1);
        CHECKS.due("the right hand rolls above a hold", 1, left.hand(1, 1, 3));
        CHECKS.due("its note is kept", 0, left.note(1, 1, 1));
        HandSpans same = with("M302404040=2626");
        CHECKS.due("a hold that is left out for the reason 1", 7, same.beat(1, 4));
        HandSpans octave = with("M302404028=2626");
        CHECKS.due("a hold that is left out for the reason 2", 7, octave.beat(1, 4));
        HandSpans third = with("M302404033=2626", FINGERS, 2, SPAN_LEFT, 6, SPAN_RIGHT, 6, REACH, 9);
        CHECKS.due("its hold cannot be played", 3, third.note(1, 1, 1));
        CHECKS.due("a hold that is left out for the reason 3", 7, third.beat(1, 4));
    }

    private static void holdWithACutTie() {
        CHECKS.sentence("NOTES OF A BEAT", "a hold is one also if its tie is cut");
        HandSpans fits = with("M302404540=2020", SPAN_LEFT, 20, SPAN_RIGHT, 5, REACH, 9);
        CHECKS.due("a width of the span", 6, fits.beat(1, 4));
        note(fits, 1, 1, 1, 0, 1, 1);
        HandSpans wide = with("M302404540=2020", SPAN_LEFT, 20, SPAN_RIGHT, 4, REACH, 9);
        CHECKS.due("a width of the span and one", 4, wide.beat(1, 4));
        note(wide, 1, 1, 0, 0, 1, 1);
        HandSpans out = with("M302404540=2020", SPAN_LEFT, 19, SPAN_RIGHT, 4, REACH, 9);
        note(out, 1, 1, NONE, 3, NONE, 0);
        HandSpans other = with("M20240=2055", FINGERS, 1);
        CHECKS.due("a cut tie: alone in its hand it can be played", 2, other.beat(1, 4));
        note(other, 0, 1, 0, 0, 1, 1);
    }

    private static void leftOutForReasonThree() {
        CHECKS.sentence("NOTES OF A BEAT", "As long as no split is possible, the kept inner note of the greatest "
                + "staff is left out for the reason 3.");
        int[] narrow = {SPAN_LEFT, 5, SPAN_RIGHT, 5, REACH, 0};
        reasons(with("M40150483010", narrow), 0, 0, 0, 3, 0);
        reasons(with("M40150304810", narrow), 0, 0, 3, 3, 0);
        reasons(with("M40150471210", narrow), 0, 0, 0, 0, 0);
        reasons(with("M40150121310", narrow), 0, 0, 0, 0, 0);
        reasons(with("M40150121610", narrow), 0, 0, 0, 3, 0);
        reasons(with("M301503010", narrow), 0, 0, 3, 0);
        reasons(with("M301504510", narrow), 0, 0, 0, 0);
        reasons(with("M301504410", narrow), 0, 0, 3, 0);
        reasons(with("M40130313233", FINGERS, 2), 0, 0, 0, 0, 0);
        reasons(with("M40130313233", FINGERS, 1), 0, 0, 3, 3, 0);
        reasons(with("M401-2040-", FINGERS, 1), 0, NONE, 0, 0, NONE);
        reasons(with("M401602040-", FINGERS, 1), 0, 0, 0, 3, NONE);
        reasons(with("M401-204001", FINGERS, 1), 0, NONE, 0, 3, 0);
    }

    private static void doublingsStayOut() {
        CHECKS.sentence("NOTES OF A BEAT", "the kept inner note of the greatest staff: not one that is left out "
                + "already");
        reasons(with("M40150303010", FINGERS, 1), 0, 0, 3, 1, 0);
        reasons(with("M40150304210", FINGERS, 1), 0, 0, 3, 2, 0);
        reasons(with("M40150305010", FINGERS, 1), 0, 0, 3, 1, 0);
        reasons(with("M40150503010", FINGERS, 1), 0, 0, 1, 3, 0);
        reasons(with("M4015030-10", FINGERS, 1), 0, 0, 3, NONE, 0);
    }

    private static void alwaysASplit() {
        CHECKS.sentence("NOTES OF A BEAT", "In the end there is always a possible split.");
        int[] least = {SPAN_LEFT, 1, SPAN_RIGHT, 1, FINGERS, 1, REACH, 0};
        beat(with("M2016000", least), 0, 1, 1, 0, 2, 2);
        beat(with("M2010060", least), 0, 1, 1, 0, 2, 2);
        beat(with("M20260=00=", least), 1, 1, 1, 0, 2, 2);
        beat(with("M40260=20=40=00=", least), 1, 1, 1, 0, 2, 2);
        beat(with("M10260=", least), 1, 0, 2, 0, 1, 3);
        beat(with("M101-", least), 0, 0, 1, 0, 0, 1);
    }

    // ---- ties, moves, costs

    private static void cutBehindLeftOutNotes() {
        CHECKS.sentence("SPLITS", "A tie is cut at a hold that is kept if the note of its staff was left out in "
                + "the beat before");
        HandSpans one = with("M302404540=2020");
        note(one, 1, 0, NONE, 1, NONE, 0);
        note(one, 1, 1, 1, 0, 1, 1);
        HandSpans two = with("M302404528=2020");
        note(two, 1, 0, NONE, 2, NONE, 0);
        note(two, 1, 1, 0, 0, 1, 1);
        beat(two, 1, 2, 1, 15, 3, 4);
        HandSpans three = with("M302606020=0010");
        note(three, 1, 0, NONE, 3, NONE, 0);
        note(three, 1, 1, 0, 0, 1, 1);
        beat(three, 1, 2, 1, 20, 3, 4);
        CHECKS.sentence("SPLITS", "it is struck anew then: a hold behind it continues it");
        HandSpans on = with("M30360606020==001010");
        note(on, 1, 1, 0, 0, 1, 1);
        note(on, 1, 2, 0, 0, 0, 0);
        CHECKS.due("cut ties", 1, on.whole(4));
    }

    private static void cutByTheOtherHand() {
        CHECKS.sentence("SPLITS", "or was played by the other hand there");
        HandSpans toLeft = with("M20240=2050", FINGERS, 1);
        note(toLeft, 0, 0, 1, 0, 1, 0);
        note(toLeft, 0, 1, 0, 0, 1, 1);
        beat(toLeft, 1, 1, 1, 40, 2, 2);
        HandSpans toRight = with("M20220=4010", FINGERS, 1);
        note(toRight, 0, 0, 0, 0, 1, 0);
        note(toRight, 0, 1, 1, 0, 1, 1);
        beat(toRight, 1, 1, 1, 40, 2, 2);
        HandSpans bass = with("M202205030=", FINGERS, 1);
        note(bass, 1, 1, 0, 0, 1, 1);
        CHECKS.sentence("SPLITS", "it is struck anew then: a hold behind it continues it");
        HandSpans on = with("M20340==205050", FINGERS, 1);
        note(on, 0, 2, 0, 0, 0, 0);
        CHECKS.due("cut ties", 1, on.whole(4));
        CHECKS.due("struck notes", 5, on.whole(7));
        HandSpans again = with("M20340==205020", FINGERS, 1);
        note(again, 0, 2, 1, 0, 1, 1);
        CHECKS.due("cut ties", 2, again.whole(4));
    }

    private static void cutWhereTheSplitIsAnother() {
        CHECKS.sentence("SPLITS", "or was played by the other hand there: by the split there, not by that of the "
                + "hold");
        HandSpans x = with("M202405030=");
        CHECKS.due("the split before: all to the right hand", 0, x.beat(0, 0));
        beat(x, 1, 1, 1, 10 + 20, 2, 2);
        note(x, 1, 1, 0, 0, 1, 1);
        note(x, 0, 1, 1, 0, 1, 0);
        wholes(x, 30, 0, 0, 0, 1, 0, 20, 4);
        HandSpans kept = with("M20240=3020");
        CHECKS.due("the split before: all to the right hand", 0, kept.beat(0, 0));
        beat(kept, 1, 1, 1, 10, 2, 2);
        note(kept, 0, 1, 1, 0, 0, 0);
    }

    private static void notCut() {
        CHECKS.sentence("SPLITS", "A tie is cut at a hold that is kept: else it is not");
        HandSpans held = with("M20340==2030-", FINGERS, 1);
        note(held, 0, 1, 1, 0, 0, 0);
        note(held, 0, 2, 1, 0, 0, 0);
        HandSpans out = with("M302404040=2020");
        note(out, 1, 1, NONE, 1, NONE, 0);
        CHECKS.due("cut ties", 0, out.whole(4));
        HandSpans left = with("M302404540=2020", SPAN_LEFT, 19, SPAN_RIGHT, 4);
        note(left, 1, 1, NONE, 3, NONE, 0);
        CHECKS.due("cut ties", 0, left.whole(4));
        HandSpans anew = with("M20240402050", FINGERS, 1);
        note(anew, 0, 1, 0, 0, 1, 0);
        CHECKS.due("a struck note of the same pitch has no tie", 0, anew.whole(4));
    }

    private static void positions() {
        CHECKS.sentence("SPLITS", "Its lowest pitch is the position of a hand");
        HandSpans x = with("M20260010000", FINGERS, 1);
        hand(x, 0, 0, 1, 0, 0, 0, 0);
        hand(x, 1, 0, 1, 60, 0, 0, 0);
        hand(x, 0, 1, 1, 0, 0, 0, 0);
        hand(x, 1, 1, 1, 1, 0, 0, 59);
        HandSpans chord = with("M40150455510");
        hand(chord, 0, 0, 1, 10, 0, 0, 0);
        hand(chord, 1, 0, 3, 45, 10, 0, 0);
    }

    private static void moves() {
        CHECKS.sentence("SPLITS", "the difference (without sign) of its positions in this beat and in the beat "
                + "before");
        HandSpans up = with("M20200600000", FINGERS, 1);
        hand(up, 1, 1, 1, 60, 0, 0, 60);
        hand(up, 0, 1, 1, 0, 0, 0, 0);
        beat(up, 1, 1, 1, 60, 2, 2);
        HandSpans down = with("M20260006000", FINGERS, 1);
        hand(down, 1, 1, 1, 0, 0, 0, 60);
        hand(down, 0, 1, 1, 0, 0, 0, 60);
        beat(down, 1, 1, 1, 120, 2, 2);
        HandSpans one = with("M20240412019", FINGERS, 1);
        hand(one, 0, 1, 1, 19, 0, 0, 1);
        hand(one, 1, 1, 1, 41, 0, 0, 1);
        CHECKS.due("both moves", 2, one.whole(6));
    }

    private static void noMoves() {
        CHECKS.sentence("SPLITS", "and 0 if it has no notes in one of both, or in beat 0");
        HandSpans gap = with("M20360-0020-40", FINGERS, 1);
        for (int b = 0; b < 3; b++) {
            for (int h = 0; h < 2; h++) {
                CHECKS.due("hand " + h + " in beat " + b, 0, gap.hand(h, b, 4));
            }
        }
        CHECKS.due("moves", 0, gap.whole(6));
        HandSpans right = with("M2026050-20", FINGERS, 1);
        hand(right, 0, 0, 0, NONE, 0, 0, 0);
        hand(right, 0, 1, 1, 20, 0, 0, 0);
        hand(right, 1, 1, 1, 50, 0, 0, 10);
        HandSpans gone = with("M20260-0000", FINGERS, 1);
        hand(gone, 1, 0, 1, 60, 0, 0, 0);
        hand(gone, 0, 1, 1, 0, 0, 0, 0);
        hand(gone, 1, 1, 0, NONE, 0, 0, 0);
    }

    private static void costs() {
        CHECKS.sentence("SPLITS", "10 for each tie that is cut");
        CHECKS.due("one", 10, with("M302404540=2020").beat(1, 2));
        CHECKS.due("one, and moves of 10 and 20", 40, with("M20220=4010", FINGERS, 1).beat(1, 2));
        CHECKS.sentence("SPLITS", "5 for each hand that is rolled");
        CHECKS.due("one", 5, with("M301463020", SPAN_LEFT, 9, SPAN_RIGHT, 14, REACH, 1).beat(0, 2));
        CHECKS.due("two", 10, with("M40140303320", SPAN_LEFT, 9, SPAN_RIGHT, 6, REACH, 1).beat(0, 2));
        CHECKS.sentence("SPLITS", "and the moves of both hands");
        CHECKS.due("the right one", 60, with("M20200600000", FINGERS, 1).beat(1, 2));
        CHECKS.due("the left one", 7, with("M20250502013", FINGERS, 1).beat(1, 2));
        CHECKS.due("both", 20, with("M20240502010", FINGERS, 1).beat(1, 2));
        beat(with("M4024060-4728=2020"), 1, 2, 1, 10 + 5 + 7, 4, 4);
    }

    private static void beatByBeat() {
        CHECKS.sentence("SPLITS", "In mode 0, the splits are chosen beat by beat, from beat 0 on: the possible "
                + "one with the smallest costs of the beat, among several the smallest one.");
        HandSpans x = with("M2022050-20");
        beat(x, 0, 0, 2, 0, 1, 3);
        beat(x, 1, 1, 1, 30, 2, 2);
        HandSpans smaller = with("M1022021");
        CHECKS.due("the split without a move", 1, smaller.beat(1, 0));
        CHECKS.due("of equal ones the smallest", 0, with("M1022020").beat(1, 0));
        CHECKS.due("of equal ones the smallest", 0, with("M103202121").beat(0, 0));
        CHECKS.due("the costs of the beat alone count", 1, with("M103202121").beat(1, 0));
        CHECKS.due("and go on from there", 0, with("M103202122").beat(2, 0));
    }

    private static void forTheWhole() {
        CHECKS.sentence("SPLITS", "In mode 1, the possible splits are chosen so that the sum of the costs of all "
                + "beats is smallest");
        HandSpans x = with("M2022050-20", MODE, 1);
        beat(x, 0, 1, 2, 0, 1, 3);
        beat(x, 1, 1, 1, 0, 2, 2);
        String rests = "-".repeat(15);
        HandSpans slow = with("M21620" + "=".repeat(14) + "50" + rests + "20", MODE, 1);
        CHECKS.due("from the last beat to the first", 0, slow.whole(0));
        for (int b = 0; b < 16; b++) {
            CHECKS.due("split of beat " + b, 1, slow.beat(b, 0));
        }
        slow.set(MODE, 0);
        CHECKS.due("beat by beat", 30, slow.whole(0));
        CHECKS.due("in one beat, both modes are alike", 0, with("M2015020", MODE, 1).whole(0));
    }

    private static void smallestSplitsFirst() {
        CHECKS.sentence("SPLITS", "among several ways with the smallest split of beat 0, then of beat 1, and so "
                + "on");
        way("M103202020", 0, 0, 0);
        way("M103202021", 0, 0, 1);
        way("M103202120", 0, 1, 0);
        way("M103202121", 0, 1, 0);
        way("M103202122", 0, 1, 0);
        way("M10420-2021", 0, 0, 0, 1);
        way("M10120", 0);
    }

    private static void way(String music, int... splits) {
        HandSpans x = with(music, MODE, 1);
        CHECKS.due(music + ", costs", 0, x.whole(0));
        for (int b = 0; b < splits.length; b++) {
            CHECKS.due(music + ", split of beat " + b, splits[b], x.beat(b, 0));
        }
    }

    private static void askedAgain() {
        CHECKS.sentence("NOTES OF A BEAT", "(0 without notes): also where there were notes when it was asked "
                + "before");
        HandSpans x = with("M40160402000");
        beat(x, 0, 1, 1, 0, 2, 2);
        x.write(0, 0, 31);
        x.write(1, 0, -1);
        x.write(2, 0, -1);
        x.write(3, 0, 30);
        beat(x, 0, 0, 3, 0, 2, 7);
        hand(x, 0, 0, 0, NONE, 0, 0, 0);
        x.write(0, 0, -1);
        x.write(3, 0, -1);
        beat(x, 0, 0, 1, 0, 0, 1);
        hand(x, 1, 0, 0, NONE, 0, 0, 0);
        CHECKS.sentence("SPLITS", "the sum of the costs of all beats is smallest: of the beats that are there "
                + "then");
        HandSpans leap = with("M20320=50--20", MODE, 1);
        CHECKS.due("split of beat 0", 1, leap.beat(0, 0));
        leap.removeBeat(2);
        CHECKS.due("split of beat 0", 0, leap.beat(0, 0));
        CHECKS.due("split of beat 1", 0, leap.beat(1, 0));
        leap.undo();
        CHECKS.due("split of beat 1", 1, leap.beat(1, 0));
        leap.set(MODE, 0);
        CHECKS.due("split of beat 1", 0, leap.beat(1, 0));
    }

    // ---- promise 16

    private static void notePlaces() {
        CHECKS.sentence("P16", "Throws IndexOutOfBoundsException if there is no such staff or beat");
        String music = "M20230=-44";
        for (int what : new int[] {0, 1, 2, 3, -1, 4, LEAST, MOST}) {
            for (int wrong : new int[] {-1, 2, 3, LEAST, MOST}) {
                CHECKS.refusedIn(music, "note(" + wrong + ",0," + what + ")", INDEX, x -> x.note(wrong, 0, what));
                CHECKS.refusedIn(music, "note(0," + wrong + "," + what + ")", INDEX, x -> x.note(0, wrong, what));
            }
        }
        CHECKS.refusedIn(FULL_SCORE, "note(4,0,0)", INDEX, x -> x.note(4, 0, 0));
        CHECKS.refusedIn(FULL_SCORE, "note(0,16,0)", INDEX, x -> x.note(0, 16, 0));
        CHECKS.toldIn(FULL_SCORE, "note(3,15,1)", 0, x -> x.note(3, 15, 1));
        CHECKS.toldIn(FULL_SCORE, "note(2,15,1)", 1, x -> x.note(2, 15, 1));
        CHECKS.sentence("P16", "Throws IllegalArgumentException if what is not 0 to 3");
        for (int what : new int[] {-1, 4, LEAST, MOST}) {
            CHECKS.refusedIn(music, "note(0,1," + what + ")", ARGUMENT, x -> x.note(0, 1, what));
            CHECKS.refusedIn(music, "of a rest, note(1,0," + what + ")", ARGUMENT, x -> x.note(1, 0, what));
        }
    }

    private static void noteNumbers() {
        CHECKS.sentence("P16", "Returns that number; NONE for a rest.");
        for (int i = 0; i < 4; i++) {
            int what = i;
            CHECKS.toldIn("M20230=-40", "note(1,0," + what + ")", NONE, x -> x.note(1, 0, what));
        }
        CHECKS.sentence("P16", "2: 1 if it is struck, also after a cut tie, 0 if it is held (NONE if it is left "
                + "out)");
        CHECKS.toldIn("M20230=-40", "struck", 1, x -> x.note(0, 0, 2));
        CHECKS.toldIn("M20230=-40", "held", 0, x -> x.note(0, 1, 2));
        CHECKS.toldIn("M302404540=2020", "cut", 1, x -> x.note(1, 1, 2));
        CHECKS.toldIn("M302404540=2020", "left out", NONE, x -> x.note(1, 0, 2));
        CHECKS.toldIn("M302404040=2020", "held, and left out", NONE, x -> x.note(1, 1, 2));
        CHECKS.sentence("P16", "3: 1 if its tie is cut, 0 if not (also for a struck note, and for one that is "
                + "left out)");
        CHECKS.toldIn("M20230=-40", "struck", 0, x -> x.note(0, 0, 3));
        CHECKS.toldIn("M20230=-40", "held", 0, x -> x.note(0, 1, 3));
        CHECKS.toldIn("M302404540=2020", "cut", 1, x -> x.note(1, 1, 3));
        CHECKS.toldIn("M302404540=2020", "left out", 0, x -> x.note(1, 0, 3));
        CHECKS.toldIn("M302404040=2020", "held, and left out", 0, x -> x.note(1, 1, 3));
        CHECKS.sentence("P16", "0: its hand, 0 or 1 (NONE if it is left out); 1: the reason (0 if it is kept)");
        CHECKS.toldIn("M302404540=2020", "the right hand", 1, x -> x.note(0, 0, 0));
        CHECKS.toldIn("M302404540=2020", "the left hand", 0, x -> x.note(2, 0, 0));
        CHECKS.toldIn("M302404540=2020", "left out", NONE, x -> x.note(1, 0, 0));
        CHECKS.toldIn("M302404540=2020", "left out", 1, x -> x.note(1, 0, 1));
        CHECKS.toldIn("M302404540=2020", "kept", 0, x -> x.note(1, 1, 1));
    }

    // ---- promise 17

    private static void handPlaces() {
        CHECKS.sentence("P17", "Throws IndexOutOfBoundsException if there is no such hand or beat");
        String music = "M20230=-44";
        for (int what : new int[] {0, 1, 2, 3, 4, -1, 5, LEAST, MOST}) {
            for (int wrong : new int[] {-1, 2, 3, LEAST, MOST}) {
                CHECKS.refusedIn(music, "hand(" + wrong + ",0," + what + ")", INDEX, x -> x.hand(wrong, 0, what));
                CHECKS.refusedIn(music, "hand(1," + wrong + "," + what + ")", INDEX, x -> x.hand(1, wrong, what));
            }
        }
        CHECKS.refusedIn("M10130", "hand(0,1,0)", INDEX, x -> x.hand(0, 1, 0));
        CHECKS.refusedIn(FULL_SCORE, "hand(0,16,0)", INDEX, x -> x.hand(0, 16, 0));
        CHECKS.toldIn(FULL_SCORE, "hand(1,15,0)", 2, x -> x.hand(1, 15, 0));
        CHECKS.toldIn("M10130", "hand(1,0,0) of one staff", 1, x -> x.hand(1, 0, 0));
        CHECKS.sentence("P17", "Throws IllegalArgumentException if what is not 0 to 4");
        for (int what : new int[] {-1, 5, LEAST, MOST}) {
            CHECKS.refusedIn(music, "hand(0,1," + what + ")", ARGUMENT, x -> x.hand(0, 1, what));
            CHECKS.refusedIn(music, "hand(1,0," + what + ")", ARGUMENT, x -> x.hand(1, 0, what));
        }
    }

    private static void handNumbers() {
        CHECKS.sentence("P17", "1: its position (NONE without notes); 2: its width; 3: 1 if it is rolled, 0 if "
                + "not");
        int[] without = {0, NONE, 0, 0, 0};
        int[] full = {4, 30, 3, 0, 0};
        int[] lowest = {1, 0, 0, 0, 0};
        for (int i = 0; i < 5; i++) {
            int what = i;
            CHECKS.toldIn("M40130313233", "hand(0,0," + what + ")", without[what], x -> x.hand(0, 0, what));
            CHECKS.toldIn("M40130313233", "hand(1,0," + what + ")", full[what], x -> x.hand(1, 0, what));
            CHECKS.toldIn("M10100", "hand(1,0," + what + ")", lowest[what], x -> x.hand(1, 0, what));
        }
        int[] rolled = {2, 10, 13, 1, 0};
        int[] narrow = {2, 10, 11, 0, 0};
        for (int i = 0; i < 5; i++) {
            int what = i;
            CHECKS.toldIn("M301602310", "hand(0,0," + what + ")", rolled[what], x -> x.hand(0, 0, what));
            CHECKS.toldIn("M301602110", "hand(0,0," + what + ")", narrow[what], x -> x.hand(0, 0, what));
        }
    }

    // ---- promise 18

    private static void beatPlaces() {
        CHECKS.sentence("P18", "Throws IndexOutOfBoundsException if there is no such beat");
        String music = "M20230=-44";
        for (int what : new int[] {0, 4, -1, 5, LEAST, MOST}) {
            for (int wrong : new int[] {-1, 2, 3, 16, LEAST, MOST}) {
                CHECKS.refusedIn(music, "beat(" + wrong + "," + what + ")", INDEX, x -> x.beat(wrong, what));
            }
        }
        CHECKS.refusedIn("M10130", "beat(1,0)", INDEX, x -> x.beat(1, 0));
        CHECKS.refusedIn(FULL_SCORE, "beat(16,0)", INDEX, x -> x.beat(16, 0));
        CHECKS.toldIn(FULL_SCORE, "beat(15,3)", 2, x -> x.beat(15, 3));
        CHECKS.sentence("P18", "Throws IllegalArgumentException if what is not 0 to 4");
        for (int what : new int[] {-1, 5, LEAST, MOST}) {
            CHECKS.refusedIn(music, "beat(0," + what + ")", ARGUMENT, x -> x.beat(0, what));
            CHECKS.refusedIn(music, "beat(1," + what + ")", ARGUMENT, x -> x.beat(1, what));
        }
    }

    private static void beatNumbers() {
        CHECKS.sentence("P18", "0: its split; 1: the number of possible splits; 2: its costs; 3: the number of "
                + "notes that are kept; 4: the set of the possible splits, as a bit set");
        int[] rest = {0, 1, 0, 0, 1};
        int[] chord = {0, 5, 0, 4, 31};
        int[] octaves = {0, 3, 0, 2, 7};
        for (int i = 0; i < 5; i++) {
            int what = i;
            CHECKS.toldIn("M401----", "beat(0," + what + ")", rest[what], x -> x.beat(0, what));
            CHECKS.toldIn("M40130313233", "beat(0," + what + ")", chord[what], x -> x.beat(0, what));
            CHECKS.toldIn("M40142424230", "beat(0," + what + ")", octaves[what], x -> x.beat(0, what));
        }
        beat(with("M301502010"), 0, 2, 1, 0, 3, 4);
    }

    // ---- promise 19

    private static void wholeRange() {
        CHECKS.sentence("P19", "Throws IllegalArgumentException if what is not 0 to 7");
        for (int what : new int[] {-1, 8, 9, LEAST, MOST}) {
            CHECKS.refusedIn("M20230=-44", "whole(" + what + ")", ARGUMENT, x -> x.whole(what));
        }
        CHECKS.sentence("P19", "0: the sum of all costs; 1 to 3: ...; 7: the number of notes that are struck");
        int[] want = {30, 0, 0, 0, 0, 0, 30, 3};
        int[] cut = {10, 1, 0, 0, 1, 0, 0, 5};
        for (int i = 0; i < 8; i++) {
            int what = i;
            CHECKS.toldIn("M2022050-20", "whole(" + what + ")", want[what], x -> x.whole(what));
            CHECKS.toldIn("M302404540=2020", "whole(" + what + ")", cut[what], x -> x.whole(what));
            CHECKS.toldIn("M101-", "whole(" + what + ")", 0, x -> x.whole(what));
        }
    }

    private static void wholeCounts() {
        CHECKS.sentence("P19", "1 to 3: the number of notes that are left out for this reason");
        wholes(with(FULL_SCORE), 0, 32, 0, 0, 0, 0, 0, 32);
        String octaves = "M416" + "60".repeat(16) + "48".repeat(16) + "36".repeat(16) + "24".repeat(16);
        wholes(with(octaves), 0, 0, 32, 0, 0, 0, 0, 32);
        wholes(with(octaves, FINGERS, 1, OCTAVES, 0), 0, 0, 0, 32, 0, 0, 0, 32);
        CHECKS.sentence("P19", "4: the number of ties that are cut; 7: the number of notes that are struck");
        String on = "=".repeat(15);
        String held = "M41660" + on + "50" + on + "30" + on + "05" + on;
        wholes(with(held), 0, 0, 0, 16, 0, 0, 0, 3);
        wholes(with("M21640" + on + "2050".repeat(8), FINGERS, 1), 600, 0, 0, 0, 15, 0, 450, 32);
        CHECKS.sentence("P19", "5: of hands that are rolled, over all beats; 6: the sum of all moves");
        String rolls = "M416" + "40".repeat(16) + "30".repeat(16) + "33".repeat(16) + "20".repeat(16);
        wholes(with(rolls, SPAN_LEFT, 9, SPAN_RIGHT, 6, REACH, 1), 160, 0, 0, 0, 0, 32, 0, 64);
        wholes(with("M216" + "0060".repeat(16), FINGERS, 1), 1800, 0, 0, 0, 0, 0, 1800, 32);
    }

    private static void wholes(HandSpans x, int... want) {
        String seen = Scores.seen(x);
        for (int what = 0; what < 8; what++) {
            CHECKS.due(seen + ", whole(" + what + ")", want[what], x.whole(what));
        }
    }
}
