/** Promises 20 to 25: each sentence that names an edge, with the case just inside it and the one just outside. */
public final class TrialEdgesTest {
    private static final Checks CHECKS = new Checks();
    private static final Class<IllegalArgumentException> ARGUMENT = IllegalArgumentException.class;
    private static final Class<IndexOutOfBoundsException> INDEX = IndexOutOfBoundsException.class;
    private static final int NONE = -9;
    private static final int LEAST = Integer.MIN_VALUE;
    private static final int MOST = Integer.MAX_VALUE;
    private static final int SPAN_LEFT = 0;
    private static final int SPAN_RIGHT = 1;
    private static final int FINGERS = 2;
    private static final int REACH = 3;
    private static final int OCTAVES = 4;
    private static final int[] LOW = {1, 1, 1, 0, 0, 0};
    private static final int[] HIGH = {24, 24, 5, 9, 1, 1};
    private static final String LEAP = "M2022050-20";
    private static final String FULL_SCORE = "M416" + "60".repeat(64);
    private static final int GROUP = 100000;
    private static final long TIMES = 6364136223846793005L;
    private static final long PLUS = 1442695040888963407L;

    private static final Checks.Deed[] ASKS = {x -> x.whatIf(0, 3, 0), x -> x.whatIf(5, 1, 0), x -> x.whatIf(4, 0, 7),
        x -> x.whatIf(2, 1, 6), HandSpans::smallestSpan, HandSpans::dearest, x -> x.bestTransposition(0),
        x -> x.bestTransposition(1), x -> x.runScript(3, 150001200160000L), x -> x.runScript(3, 200413010050010L),
        x -> x.simulate(7, 40), x -> x.simulate(-7, 1), x -> x.simulate(11, 2)};

    public static void main(String[] args) {
        asksChangeNothing();
        asksAreOfThePresentState();
        whatIfRange();
        whatIfNumbers();
        smallestOfSpans();
        greatestOfSpans();
        spansOfBothHands();
        dearestOfEqualOnes();
        dearestStaffStays();
        transpositionPlaces();
        nearestTransposition();
        transpositionsInRange();
        scriptArguments();
        scriptOrder();
        scriptOnACopy();
        settingCommands();
        cellCommands();
        holdCommands();
        exchangeCommands();
        removeCommands();
        wholeCommands();
        handCommands();
        reasonCommands();
        looseHolds();
        otherGroups();
        allGroups();
        allEffects();
        roundsRange();
        oneRound();
        allRounds();
        roundsWithHolds();
        roundsAdded();
        CHECKS.close();
    }

    private static HandSpans with(String music, int... settings) {
        HandSpans x = Scores.of(music);
        for (int i = 0; i + 1 < settings.length; i += 2) {
            x.set(settings[i], settings[i + 1]);
        }
        return x;
    }

    // ---- promises 20 to 25

    private static void asksChangeNothing() {
        CHECKS.sentence("P20 to P25", "all following methods up to the save slots change nothing");
        for (int i = 0; i < ASKS.length; i++) {
            HandSpans asked = withOtherSettings();
            ASKS[i].on(asked);
            ASKS[i].on(asked);
            CHECKS.due("all that is there after call " + i, Scores.usedUp(withOtherSettings()), Scores.usedUp(asked));
        }
    }

    private static void asksAreOfThePresentState() {
        CHECKS.sentence("P20 to P25", "on a copy of the state: of the present one, whatever was asked before");
        for (String music : new String[] {LEAP, "M302404540=2022", "M40250=48=30311012", "M20320=50--20"}) {
            HandSpans asked = written(music);
            for (int i = 0; i < 3 * ASKS.length; i++) {
                // In steps of 7 all of them come, each behind the traces of others than its neighbours.
                Checks.Deed ask = ASKS[i * 7 % ASKS.length];
                CHECKS.due(music + ", call " + i, ask.on(Scores.of(music)), ask.on(asked));
            }
            asked.set(FINGERS, 1);
            for (int i = 0; i < ASKS.length; i++) {
                long want = ASKS[i].on(with(music, FINGERS, 1));
                CHECKS.due(music + " with one finger, call " + i, want, ASKS[i].on(asked));
            }
        }
    }

    /** The music made by actions: no text was ever read for it. */
    private static HandSpans written(String music) {
        HandSpans score = Scores.of(music);
        HandSpans x = new HandSpans();
        for (int s = 1; s < score.about(6); s++) {
            x.staff(true);
        }
        for (int b = 1; b < score.about(7); b++) {
            x.insertBeat(b);
        }
        for (int s = 0; s < score.about(6); s++) {
            for (int b = 0; b < score.about(7); b++) {
                int v = score.cell(s, b, false);
                x.write(s, b, v == NONE ? -1 : v);
            }
        }
        return x;
    }

    private static HandSpans withOtherSettings() {
        HandSpans x = Scores.full("M302404540=2022");
        int[] other = {9, 8, 3, 5, 0, 1};
        for (int what = 0; what < other.length; what++) {
            x.set(what, other[what]);
        }
        return x;
    }

    // ---- promise 20

    private static void whatIfRange() {
        CHECKS.sentence("P20", "Throws IllegalArgumentException if what is not 0 to 5, v is out of range, or of "
                + "is not 0 to 7");
        for (int w = 0; w < 6; w++) {
            int what = w;
            for (int v : new int[] {LOW[w] - 1, HIGH[w] + 1, LEAST, MOST}) {
                CHECKS.refusedIn(LEAP, "whatIf(" + what + "," + v + ",0)", ARGUMENT, x -> x.whatIf(what, v, 0));
                CHECKS.refusedIn(LEAP, "whatIf(" + what + "," + v + ",8)", ARGUMENT, x -> x.whatIf(what, v, 8));
            }
            for (int of : new int[] {-1, 8, LEAST, MOST}) {
                CHECKS.refusedIn(LEAP, "whatIf, of " + of, ARGUMENT, x -> x.whatIf(what, LOW[what], of));
                CHECKS.refusedIn(LEAP, "whatIf, of " + of, ARGUMENT, x -> x.whatIf(what, HIGH[what], of));
            }
        }
        for (int what : new int[] {-1, 6, 7, LEAST, MOST}) {
            for (int v = 0; v <= 1; v++) {
                int value = v;
                CHECKS.refusedIn(LEAP, "whatIf(" + what + "," + v + ",0)", ARGUMENT, x -> x.whatIf(what, value, 0));
            }
        }
    }

    private static void whatIfNumbers() {
        CHECKS.sentence("P20", "Tells a number of the whole reduction with another setting.");
        for (String music : new String[] {LEAP, "M40140283320", "M302404540=2020", "M40250=48=30311012"}) {
            for (int what = 0; what < 6; what++) {
                for (int v = LOW[what]; v <= HIGH[what]; v++) {
                    HandSpans set = with(music, what, v);
                    HandSpans asked = Scores.of(music);
                    for (int of = 0; of <= 7; of++) {
                        CHECKS.due(music + ", whatIf(" + what + "," + v + "," + of + ")", set.whole(of),
                                asked.whatIf(what, v, of));
                    }
                }
            }
        }
        CHECKS.toldIn(LEAP, "whatIf(5,0,0)", 30, x -> x.whatIf(5, 0, 0));
        CHECKS.toldIn(LEAP, "whatIf(5,1,0)", 0, x -> x.whatIf(5, 1, 0));
        CHECKS.toldIn("M40140283320", "whatIf(4,0,2)", 0, x -> x.whatIf(4, 0, 2));
        CHECKS.toldIn("M40140283320", "whatIf(4,1,2)", 1, x -> x.whatIf(4, 1, 2));
        CHECKS.toldIn("M40130313233", "whatIf(2,1,3)", 2, x -> x.whatIf(2, 1, 3));
        CHECKS.toldIn("M40130313233", "whatIf(2,5,7)", 4, x -> x.whatIf(2, 5, 7));
        CHECKS.toldIn("M301602310", "whatIf(0,13,5)", 0, x -> x.whatIf(0, 13, 5));
        CHECKS.toldIn("M301602310", "whatIf(0,10,5)", 1, x -> x.whatIf(0, 10, 5));
        CHECKS.toldIn("M301602310", "whatIf(0,9,3)", 1, x -> x.whatIf(0, 9, 3));
        CHECKS.toldIn("M301602310", "whatIf(3,0,3)", 1, x -> x.whatIf(3, 0, 3));
        CHECKS.toldIn("M301602310", "whatIf(3,1,3)", 0, x -> x.whatIf(3, 1, 3));
    }

    // ---- promise 21

    private static void smallestOfSpans() {
        CHECKS.sentence("P21", "Returns the smallest number from 1 to 24");
        CHECKS.toldIn("M101-", "of a rest", 1, HandSpans::smallestSpan);
        CHECKS.toldIn("M2010060", "of the outer staves", 1, HandSpans::smallestSpan);
        CHECKS.toldIn("M301404020", "a doubling is no matter", 1, HandSpans::smallestSpan);
        CHECKS.toldIn("M301402820", "an octave is no matter", 1, HandSpans::smallestSpan);
        for (int width = 1; width <= 30; width++) {
            for (int reach = 0; reach <= 9; reach += 3) {
                // The bass is far away: so the right hand has to reach the inner note, rolled where it can be.
                HandSpans x = with("M3016060-", OCTAVES, 0, REACH, reach, SPAN_LEFT, 24, SPAN_RIGHT, 24);
                x.write(1, 0, 60 - width);
                x.write(2, 0, 60 - 2 * width);
                int span = width - reach < 1 ? 1 : width - reach;
                CHECKS.due("a width of " + width + ", a reach of " + reach, span <= 24 ? span : NONE, x.smallestSpan());
            }
        }
    }

    private static void greatestOfSpans() {
        CHECKS.sentence("P21", "NONE if there is none");
        CHECKS.due("24 is tried", 24, with("M301543006", OCTAVES, 0, REACH, 0).smallestSpan());
        CHECKS.due("25 is not", NONE, with("M301553005", OCTAVES, 0, REACH, 0).smallestSpan());
        CHECKS.due("fingers", NONE, with("M301303132", FINGERS, 1).smallestSpan());
        CHECKS.due("enough fingers", 1, with("M301303132", FINGERS, 2, REACH, 0).smallestSpan());
        CHECKS.due("a hold is not rolled", NONE, with("M302606030=0000", OCTAVES, 0, REACH, 9).smallestSpan());
        CHECKS.due("a struck note is", 21, with("M302606030300000", OCTAVES, 0, REACH, 9).smallestSpan());
    }

    private static void spansOfBothHands() {
        CHECKS.sentence("P21", "with all other settings as they are ... as the span of both hands");
        int[][] spans = {{1, 1}, {24, 1}, {1, 24}, {24, 24}};
        for (int[] pair : spans) {
            HandSpans x = with("M301403320", SPAN_LEFT, pair[0], SPAN_RIGHT, pair[1], REACH, 0);
            CHECKS.due("the upper notes are nearer", 7, x.smallestSpan());
            HandSpans y = with("M301402720", SPAN_LEFT, pair[0], SPAN_RIGHT, pair[1], REACH, 0);
            CHECKS.due("the lower notes are nearer", 7, y.smallestSpan());
            CHECKS.due("the spans stay", pair[0] + pair[1], x.about(0) + x.about(1));
        }
        HandSpans octave = with("M301452133", OCTAVES, 0, REACH, 0);
        CHECKS.due("without the octave rule", 12, octave.smallestSpan());
        octave.set(OCTAVES, 1);
        CHECKS.due("with the octave rule", 1, octave.smallestSpan());
    }

    // ---- promise 22

    private static void dearestOfEqualOnes() {
        CHECKS.sentence("P22", "among several the one with the smallest number");
        CHECKS.toldIn("M101-", "one staff", 0, HandSpans::dearest);
        CHECKS.toldIn("M401----", "four staves of rests", 0, HandSpans::dearest);
        CHECKS.toldIn(LEAP, "either staff", 0, HandSpans::dearest);
        int[] rolling = {SPAN_LEFT, 2, SPAN_RIGHT, 2, REACH, 9};
        CHECKS.due("costs", 5, with("M40111202510", rolling).whole(0));
        CHECKS.due("staves 1 and 2", 1, with("M40111202510", rolling).dearest());
        CHECKS.due("staves 2 and 3", 2, with("M40111102520", rolling).dearest());
        CHECKS.due("staves 1 and 3", 1, with("M40111251020", rolling).dearest());
        CHECKS.due("staves 0 and 3", 0, with("M40120101125", rolling).dearest());
    }

    private static void dearestStaffStays() {
        CHECKS.sentence("P22", "the staff stays, all its cells being rests");
        // Without the melody, the inner 19 is left out, two octaves below the bass: were it the melody, it would stay.
        CHECKS.toldIn("M302374818192743", "the melody", 0, HandSpans::dearest);
        // Without the bass, the inner 15 is two octaves below the melody: were it the bass, it would stay.
        CHECKS.toldIn("M302103919153411", "the bass", 2, HandSpans::dearest);
        CHECKS.sentence("P22", "the sum of all costs would be smallest: the last staff, too");
        CHECKS.toldIn("M302606059592030", "the last of three staves", 2, HandSpans::dearest);
        CHECKS.toldIn("M4026060595958582030", "the last of four staves", 3, HandSpans::dearest);
        CHECKS.toldIn("M302203059596060", "the melody", 0, HandSpans::dearest);
    }

    // ---- promise 23

    private static void transpositionPlaces() {
        CHECKS.sentence("P23", "Throws IndexOutOfBoundsException if there is no such staff");
        for (int s : new int[] {-1, 2, 3, LEAST, MOST}) {
            CHECKS.refusedIn(LEAP, "bestTransposition(" + s + ")", INDEX, x -> x.bestTransposition(s));
        }
        CHECKS.refusedIn("M10130", "bestTransposition(1)", INDEX, x -> x.bestTransposition(1));
        CHECKS.refusedIn(FULL_SCORE, "bestTransposition(4)", INDEX, x -> x.bestTransposition(4));
        CHECKS.toldIn(FULL_SCORE, "bestTransposition(3)", 0, x -> x.bestTransposition(3));
        CHECKS.toldIn(LEAP, "bestTransposition(1)", 18, x -> x.bestTransposition(1));
        CHECKS.toldIn(LEAP, "bestTransposition(0)", -18, x -> x.bestTransposition(0));
    }

    private static int innerByRolls(int left, int right) {
        return with("M301463020", SPAN_LEFT, left, SPAN_RIGHT, right, REACH, 2).bestTransposition(1);
    }

    private static void nearestTransposition() {
        CHECKS.sentence("P23", "among several the one nearest to 0, among two such ones the positive one");
        CHECKS.toldIn("M101-", "a rest", 0, x -> x.bestTransposition(0));
        CHECKS.toldIn("M10130", "a note", 0, x -> x.bestTransposition(0));
        // The inner 30 is rolled above 20 or below 46; nearer to one of them it needs no roll.
        CHECKS.due("-1 and 1", 1, innerByRolls(9, 15));
        CHECKS.due("-2 and 2", 2, innerByRolls(8, 14));
        CHECKS.due("-1 and 2", -1, innerByRolls(9, 14));
        CHECKS.due("-2 and 1", 1, innerByRolls(8, 15));
        CHECKS.due("0", 0, innerByRolls(10, 15));
        CHECKS.due("0", 0, innerByRolls(9, 16));
        CHECKS.due("all from -10 down", -10, with("M202-403030", FINGERS, 1).bestTransposition(0));
        CHECKS.due("10 alone", 10, with("M202-203020", FINGERS, 1).bestTransposition(0));
    }

    private static void transpositionsInRange() {
        CHECKS.sentence("P23", "as by transpose(), in its range, so that it throws no exception");
        CHECKS.due("-60", -60, with("M202-600000", FINGERS, 1).bestTransposition(0));
        CHECKS.due("-59, as -60 is too far", -59, with("M202-590000", FINGERS, 1).bestTransposition(0));
        CHECKS.due("60", 60, with("M2026000-00", FINGERS, 1).bestTransposition(1));
        CHECKS.due("59, as 60 is too far", 59, with("M2026000-01", FINGERS, 1).bestTransposition(1));
        CHECKS.due("-10, if no note is in the way", -10, with("M204-40-103030--", FINGERS, 1).bestTransposition(0));
        CHECKS.due("-5, as a 5 is in the way", -5, with("M204-40-053030--", FINGERS, 1).bestTransposition(0));
        CHECKS.due("0, as a 0 is in the way", 0, with("M204-40-003030--", FINGERS, 1).bestTransposition(0));
        CHECKS.due("10, as a 50 is in the way", 10, with("M2046000---00-50", FINGERS, 1).bestTransposition(1));
        CHECKS.due("0, as a 60 is in the way", 0, with("M2046000---00-60", FINGERS, 1).bestTransposition(1));
    }

    // ---- promise 24

    private static void fails(String music, int n, long script, int at) {
        CHECKS.due(music + ", runScript(" + n + "," + script + ")", at, Scores.of(music).runScript(n, script));
    }

    private static void scriptArguments() {
        CHECKS.sentence("P24", "Throws IllegalArgumentException if n is out of range");
        for (int n : new int[] {0, 4, -1, LEAST, MOST}) {
            for (long script : new long[] {0, 90000, -1, Long.MAX_VALUE}) {
                CHECKS.refusedIn(LEAP, "runScript(" + n + "," + script + ")", ARGUMENT, x -> x.runScript(n, script));
            }
        }
        CHECKS.sentence("P24", "or if script is negative or has more than 5 * n digits");
        long[] first = {100000L, 10000000000L, 1000000000000000L};
        for (int i = 1; i <= 3; i++) {
            int n = i;
            for (long script : new long[] {-1, Long.MIN_VALUE, -90000, first[n - 1], first[n - 1] + 90000,
                Long.MAX_VALUE}) {
                CHECKS.refusedIn(LEAP, "runScript(" + n + "," + script + ")", ARGUMENT, x -> x.runScript(n, script));
            }
            CHECKS.toldIn(LEAP, "runScript(" + n + "," + (first[n - 1] - 1) + ")", 0,
                    x -> x.runScript(n, first[n - 1] - 1));
            CHECKS.toldIn(LEAP, "runScript(" + n + ",0)", 0, x -> x.runScript(n, 0));
        }
        CHECKS.refusedIn(LEAP, "runScript(1), more than an int", ARGUMENT, x -> x.runScript(1, (1L << 32) + 90000));
    }

    private static void scriptOrder() {
        CHECKS.sentence("P24", "the first command is the highest group of the number (with zeros before it, if "
                + "it has fewer digits)");
        fails(LEAP, 2, 9000091000L, 1);
        fails(LEAP, 2, 9100090000L, 0);
        fails(LEAP, 2, 90000L, 0);
        fails(LEAP, 3, 9000090000L, 0);
        fails(LEAP, 3, 90000L, 0);
        CHECKS.sentence("P24", "Returns the index, from 0, of the first command that fails; NONE if all succeed.");
        fails(LEAP, 1, 90000L, NONE);
        fails(LEAP, 1, 91000L, 0);
        fails(LEAP, 2, 9000090000L, NONE);
        fails(LEAP, 3, 900009000090000L, NONE);
        fails(LEAP, 3, 910009000090000L, 0);
        fails(LEAP, 3, 900009100090000L, 1);
        fails(LEAP, 3, 900009000091000L, 2);
        fails(LEAP, 3, 910009100091000L, 0);
        fails(LEAP, 3, 900009100091000L, 1);
    }

    private static void scriptOnACopy() {
        CHECKS.sentence("P24", "Runs a script on a copy of the state.");
        CHECKS.toldIn(LEAP, "settings", NONE, x -> x.runScript(3, 100011500112001L));
        CHECKS.toldIn(LEAP, "cells", NONE, x -> x.runScript(3, 200602110230000L));
        CHECKS.toldIn(LEAP, "holds, staves, beats", NONE, x -> x.runScript(3, 401005001060000L));
        CHECKS.toldIn(LEAP, "a command behind sees it", NONE, x -> x.runScript(3, 200502005070000L));
        CHECKS.toldIn(LEAP, "what failed, changed nothing", 2, x -> x.runScript(3, 200502110191000L));
    }

    private static void settingCommands() {
        CHECKS.sentence("P24", "1 w 0 x y: sets the setting w to xy.");
        for (int w = 0; w <= 9; w++) {
            for (int xy = 0; xy <= 99; xy++) {
                boolean fine = w < 6 && xy >= LOW[w] && xy <= HIGH[w];
                fails(LEAP, 1, 10000 + 1000 * w + xy, fine ? NONE : 0);
            }
        }
        fails(LEAP, 1, 10105, 0);
        fails(LEAP, 1, 15901, 0);
        fails(LEAP, 2, 1500170000L, NONE);
        fails(LEAP, 2, 1500070030L, NONE);
        fails("M40130313233", 2, 1200173002L, NONE);
        fails("M40130313233", 2, 1200273000L, NONE);
    }

    private static void cellCommands() {
        CHECKS.sentence("P24", "2 s b x y: writes the struck note xy into beat b of staff s.");
        for (int xy = 0; xy <= 99; xy++) {
            fails(LEAP, 1, 20000 + xy, xy <= 60 ? NONE : 0);
            fails(LEAP, 1, 21100 + xy, xy <= 60 ? NONE : 0);
        }
        CHECKS.sentence("P24", "3 s b 0 0: writes a rest there.");
        for (int xy = 0; xy <= 99; xy++) {
            fails(LEAP, 1, 30000 + xy, xy == 0 ? NONE : 0);
            fails(LEAP, 1, 31100 + xy, xy == 0 ? NONE : 0);
        }
        fails(LEAP, 2, 3000090000L, 1);
        fails("M10330==", 2, 3000090200L, 1);
        fails("M10330==", 2, 3010090000L, NONE);
        fails("M10330==", 2, 2015090200L, NONE);
        CHECKS.sentence("P24", "Commands with staves or beats that do not exist fail");
        for (int s = 0; s <= 9; s++) {
            for (int b = 0; b <= 9; b++) {
                fails(LEAP, 1, 20030 + 1000 * s + 100 * b, s < 2 && b < 2 ? NONE : 0);
                fails(LEAP, 1, 30000 + 1000 * s + 100 * b, s < 2 && b < 2 ? NONE : 0);
                fails(FULL_SCORE, 1, 20030 + 1000 * s + 100 * b, s < 4 ? NONE : 0);
                fails("M10130", 1, 30000 + 1000 * s + 100 * b, s < 1 && b < 1 ? NONE : 0);
            }
        }
    }

    private static void holdCommands() {
        CHECKS.sentence("P24", "4 s b 0 0: writes a hold there.");
        for (int xy = 0; xy <= 99; xy++) {
            fails(LEAP, 1, 40100 + xy, xy == 0 ? NONE : 0);
        }
        CHECKS.sentence("P24", "The commands 1 to 6 fail if the method with this effect would throw an exception.");
        fails(LEAP, 1, 40000, 0);
        fails(LEAP, 1, 41000, 0);
        fails(LEAP, 1, 41100, 0);
        fails(LEAP, 1, 40200, 0);
        fails(LEAP, 1, 42100, 0);
        fails(LEAP, 2, 2103041100L, NONE);
        fails(LEAP, 2, 3000040100L, 1);
        fails("M11030" + "=".repeat(9), 1, 40900, NONE);
        fails("M11030" + "=".repeat(8) + "-", 1, 40900, NONE);
        fails("M11030" + "=".repeat(7) + "--", 1, 40900, 0);
        fails(FULL_SCORE, 1, 43900, NONE);
        fails(FULL_SCORE, 1, 44900, 0);
        fails(LEAP, 2, 4010070000L, NONE);
    }

    private static void exchangeCommands() {
        CHECKS.sentence("P24", "5 0 a b 0: exchanges the staves a and b.");
        for (int a = 0; a <= 9; a++) {
            for (int b = 0; b <= 9; b++) {
                fails(LEAP, 1, 50000 + 100 * a + 10 * b, a < 2 && b < 2 ? NONE : 0);
                fails("M40110203040", 1, 50000 + 100 * a + 10 * b, a < 4 && b < 4 ? NONE : 0);
                fails("M10130", 1, 50000 + 100 * a + 10 * b, a + b == 0 ? NONE : 0);
            }
        }
        for (int digit = 1; digit <= 9; digit++) {
            fails(LEAP, 1, 50010 + digit, 0);
            fails(LEAP, 1, 50010 + 1000 * digit, 0);
        }
        fails(LEAP, 2, 5001091000L, NONE);
        fails(LEAP, 2, 5001090000L, 1);
        fails(LEAP, 2, 5011090000L, NONE);
    }

    private static void removeCommands() {
        CHECKS.sentence("P24", "6 b b 0 0: removes beat bb.");
        for (int bb = 0; bb <= 99; bb++) {
            fails(LEAP, 1, 60000 + 100 * bb, bb < 2 ? NONE : 0);
            fails(FULL_SCORE, 1, 60000 + 100 * bb, bb < 16 ? NONE : 0);
            fails("M115" + "30".repeat(15), 1, 60000 + 100 * bb, bb < 15 ? NONE : 0);
            fails("M10130", 1, 60000 + 100 * bb, 0);
        }
        for (int xy = 1; xy <= 99; xy++) {
            fails(LEAP, 1, 60000 + xy, 0);
        }
        fails(LEAP, 2, 6000060000L, 1);
        fails("M10330=-", 2, 6000090000L, 1);
        fails("M1035030=", 2, 6010090100L, NONE);
        fails(FULL_SCORE, 2, 6150061500L, 1);
        fails(FULL_SCORE, 2, 6150061400L, NONE);
    }

    // ---- promise 24, the questions

    private static void wholeCommands() {
        CHECKS.sentence("P24", "7 w x y z: succeeds if the number w of the whole reduction, as told by whole(), "
                + "is xyz.");
        int[] want = {30, 0, 0, 0, 0, 0, 30, 3};
        for (int w = 0; w <= 9; w++) {
            for (int xyz = 0; xyz <= 999; xyz += xyz < 40 ? 1 : 53) {
                fails(LEAP, 1, 70000 + 1000 * w + xyz, w < 8 && want[w] == xyz ? NONE : 0);
            }
        }
        CHECKS.sentence("P24", "7 with w above 7 or a number above 999");
        dear(8, 39, 70999, NONE);
        dear(8, 39, 70998, 0);
        dear(8, 40, 70000, 0);
        dear(8, 40, 70100, 0);
        dear(8, 40, 70999, 0);
        dear(8, 41, 70001, 0);
        dear(14, 60, 70740, 0);
    }

    /** With one finger a hand, both hands leap by 60 as often as is said; then the melody moves to the last pitch. */
    private static void dear(int leaps, int last, int command, int at) {
        String both = "0060".repeat(8).substring(0, 2 * leaps + 2);
        String bass = both + "00".repeat(15 - leaps);
        String melody = both + (last < 10 ? "0" + last : "" + last).repeat(15 - leaps);
        HandSpans x = with("M216" + melody + bass, FINGERS, 1);
        int costs = 120 * leaps + last;
        CHECKS.due("costs", costs, x.whole(0));
        CHECKS.due("costs of " + costs + ", runScript(1," + command + ")", at, x.runScript(1, command));
    }

    private static void handCommands() {
        CHECKS.sentence("P24", "8 s b 0 h: succeeds if the note of staff s in beat b is played by hand h.");
        for (int h = 0; h <= 99; h++) {
            fails(LEAP, 1, 80000 + h, h == 1 ? NONE : 0);
            fails(LEAP, 1, 81100 + h, h == 0 ? NONE : 0);
            fails(LEAP, 1, 81000 + h, 0);
            fails("M40140283320", 1, 81000 + h, 0);
        }
        CHECKS.sentence("P24", "Commands with staves or beats that do not exist fail: 8");
        for (int s = 0; s <= 9; s++) {
            for (int b = 0; b <= 9; b++) {
                boolean fine = s < 2 && b < 2;
                fails("M20260606060", 1, 80000 + 1000 * s + 100 * b, 0);
                fails("M20260606060", 1, 80001 + 1000 * s + 100 * b, fine ? NONE : 0);
            }
        }
    }

    private static void reasonCommands() {
        CHECKS.sentence("P24", "9 s b 0 r: succeeds if there is a note of staff s in beat b, and it is left out "
                + "for the reason r, or kept if r is 0.");
        for (int r = 0; r <= 99; r++) {
            fails(LEAP, 1, 90000 + r, r == 0 ? NONE : 0);
            fails(LEAP, 1, 91000 + r, 0);
            fails("M40140404020", 1, 91000 + r, r == 1 ? NONE : 0);
            fails("M40140404020", 1, 92000 + r, r == 1 ? NONE : 0);
            fails("M40140283320", 1, 91000 + r, r == 2 ? NONE : 0);
            fails("M40140283320", 1, 92000 + r, r == 0 ? NONE : 0);
            fails("M301602000", 1, 91000 + r, r == 3 ? NONE : 0);
        }
        CHECKS.sentence("P24", "Commands with staves or beats that do not exist fail: 9");
        for (int s = 0; s <= 9; s++) {
            for (int b = 0; b <= 9; b++) {
                fails("M20260606060", 1, 90000 + 1000 * s + 100 * b, s < 2 && b < 2 ? NONE : 0);
            }
        }
    }

    private static void looseHolds() {
        CHECKS.sentence("ACTIONS AND UNDO", "every hold that follows a rest or is in beat 0 becomes a rest: in "
                + "scripts, too");
        fails("M10330==", 3, 300002004090100L, 2);
        fails("M10330==", 3, 300002004090200L, 2);
        fails("M10430==-", 2, 3000040300L, 1);
        fails("M10330==", 3, 600002004090100L, 2);
        fails("M10330==", 2, 6000040100L, 1);
        CHECKS.sentence("ACTIONS AND UNDO", "every hold that follows a rest or is in beat 0 becomes a rest: no "
                + "other one");
        fails("M10330==", 2, 2004090200L, NONE);
        fails("M10330==", 3, 301002010090200L, 2);
        fails("M10330==", 2, 6010090100L, NONE);
        fails("M20330==40==", 3, 300009120090200L, 2);
    }

    private static void otherGroups() {
        CHECKS.sentence("P24", "and so does any other group (also one with another digit where a 0 is written)");
        for (int group = 0; group < 10000; group += 7) {
            fails("M10130", 1, group, 0);
        }
        fails("M10130", 1, 9999, 0);
        fails("M10130", 1, 99999, 0);
        for (int digit = 1; digit <= 9; digit++) {
            fails(LEAP, 1, 10005 + 100 * digit, 0);
            fails(LEAP, 1, 30000 + 10 * digit, 0);
            fails(LEAP, 1, 30000 + digit, 0);
            fails(LEAP, 1, 40100 + 10 * digit, 0);
            fails(LEAP, 1, 40100 + digit, 0);
            fails(LEAP, 1, 50010 + digit, 0);
            fails(LEAP, 1, 50010 + 1000 * digit, 0);
            fails(LEAP, 1, 60000 + 10 * digit, 0);
            fails(LEAP, 1, 60000 + digit, 0);
            fails(LEAP, 1, 80001 + 10 * digit, 0);
            fails(LEAP, 1, 90000 + 10 * digit, 0);
        }
    }

    private static boolean works(Checks.Call call) {
        return Checks.outcome(call).startsWith("answers");
    }

    /** What the document says of a command, done by the methods of the face. */
    private static boolean succeeds(HandSpans x, int group) {
        int w = group / 1000 % 10;
        int y = group / 100 % 10;
        int z = group / 10 % 10;
        int last = group % 10;
        int pair = group % 100;
        switch (group / 10000) {
            case 1:
                return y == 0 && works(() -> x.set(w, pair));
            case 2:
                return pair <= 60 && works(() -> x.write(w, y, pair));
            case 3:
                return pair == 0 && works(() -> x.write(w, y, -1));
            case 4:
                return pair == 0 && works(() -> x.write(w, y, 99));
            case 5:
                return w == 0 && last == 0 && works(() -> x.exchange(y, z));
            case 6:
                return pair == 0 && works(() -> x.removeBeat(10 * w + y));
            case 7:
                return w <= 7 && x.whole(w) == group % 1000;
            case 8:
                return z == 0 && Checks.outcome(() -> x.note(w, y, 0)).equals("answers " + last);
            case 9:
                return z == 0 && Checks.outcome(() -> x.note(w, y, 1)).equals("answers " + last);
            default:
                return false;
        }
    }

    private static void allGroups() {
        CHECKS.sentence("P24", "each is a group of five decimal digits: all of them");
        for (String music : new String[] {"M302404540=2020", "M112" + "30=-".repeat(4)}) {
            HandSpans asked = Scores.of(music);
            for (int group = 0; group < GROUP; group++) {
                asked = group % 300 == 0 ? Scores.of(music) : asked;
                boolean fine = succeeds(Scores.of(music), group);
                CHECKS.due(music + ", command " + group, fine ? NONE : 0, asked.runScript(1, group));
            }
        }
    }

    private static void allEffects() {
        CHECKS.sentence("P24", "1 w 0 x y: sets ... 6 b b 0 0: removes: seen by a 7 behind it");
        String music = "M30340454040=-2020-";
        for (int group = 10000; group < 70000; group++) {
            HandSpans done = Scores.of(music);
            if (succeeds(done, group)) {
                HandSpans asked = Scores.of(music);
                for (int w = 0; w <= 7; w++) {
                    long script = (long) group * GROUP + 70000 + 1000 * w + done.whole(w);
                    CHECKS.due("runScript(2," + script + ")", NONE, asked.runScript(2, script));
                    CHECKS.due("runScript(2," + script + " + 1)", 1, asked.runScript(2, script + 1));
                }
            }
        }
    }

    // ---- promise 25

    private static void roundsRange() {
        CHECKS.sentence("P25", "m: number of rounds, 1 to 40; Throws IllegalArgumentException if m is out of "
                + "range");
        for (int m : new int[] {0, 41, -1, LEAST, MOST}) {
            for (long seed : new long[] {0, -1, Long.MIN_VALUE, Long.MAX_VALUE}) {
                CHECKS.refusedIn(LEAP, "simulate(" + seed + "," + m + ")", ARGUMENT, x -> x.simulate(seed, m));
            }
        }
        CHECKS.sentence("P25", "seed: any long");
        for (long seed : new long[] {0, 1, -1, Long.MIN_VALUE, Long.MAX_VALUE, 1L << 32}) {
            for (int m : new int[] {1, 2, 39, 40}) {
                for (String music : new String[] {LEAP, "M101-", FULL_SCORE, "M302404540=2020"}) {
                    long want = replayed(music, seed, m);
                    CHECKS.toldIn(music, "simulate(" + seed + "," + m + ")", want, x -> x.simulate(seed, m));
                }
            }
        }
    }

    /** The rounds by write(). */
    private static int replayed(String music, long seed, int m) {
        HandSpans x = Scores.of(music);
        long r = seed;
        for (int i = 0; i < m; i++) {
            r = r * TIMES + PLUS;
            draw(x, (int) (r >>> 33));
        }
        return x.whole(0) + 1000 * (x.whole(1) + x.whole(2) + x.whole(3));
    }

    private static void draw(HandSpans x, int r) {
        int s = r % x.about(6);
        int b = r / 4 % x.about(7);
        int v = r / 64 % 64;
        Checks.outcome(() -> x.write(s, b, v <= 60 ? v : v == 61 ? -1 : 99));
    }

    /** The seed with which the first round has this r. */
    private static long seedOf(int r) {
        long inverse = 1;
        for (int i = 0; i < 6; i++) {
            inverse *= 2 - TIMES * inverse;
        }
        return (((long) r << 33) - PLUS) * inverse;
    }

    private static int rowOf(int v, int low, int high) {
        return 4096 * high + 64 * v + low;
    }

    private static void oneRound() {
        CHECKS.sentence("P25", "if v is at most 60, the struck note v is written into beat b of staff s; if v is "
                + "61, a rest; otherwise a hold, if write() would not throw an exception");
        // In each r here, r % 3 is 1: the inner one of three staves.
        CHECKS.due("a doubling", 1000, round("M301404020", rowOf(40, 0, 0)));
        CHECKS.due("left out for the reason 3", 1000, round("M301604000", rowOf(20, 2, 0)));
        CHECKS.due("v is 60: it is the melody's", 1000, round("M301604000", rowOf(60, 1, 0)));
        CHECKS.due("v is 61: a rest", 0, round("M301604000", rowOf(61, 0, 0)));
        CHECKS.due("v is 62: no hold in beat 0", 1000, round("M301604000", rowOf(62, 2, 0)));
        CHECKS.due("v is 63: no hold in beat 0", 1000, round("M301604000", rowOf(63, 1, 0)));
        // In each r here, r % 2 is 0 and r / 4 % 2 is 1: the melody in beat 1.
        CHECKS.due("v is 62: a hold in beat 1 takes the leap away", 0, round(LEAP, rowOf(62, 4, 0)));
        CHECKS.due("v is 61: a rest, too", 0, round(LEAP, rowOf(61, 4, 0)));
        CHECKS.due("v is 60: a leap of 40", 40, round(LEAP, rowOf(60, 4, 0)));
        CHECKS.due("v is 0: the melody goes below", 0, round(LEAP, rowOf(0, 4, 0)));
    }

    private static int round(String music, int r) {
        int got = Scores.of(music).simulate(seedOf(r), 1);
        CHECKS.due(music + " by write(), r is " + r, replayed(music, seedOf(r), 1), got);
        return got;
    }

    private static void allRounds() {
        CHECKS.sentence("P25", "Let s be r % (number of staves), b be r / 4 % (number of beats), and v be r / 64 "
                + "% 64");
        String[] scores = {"M101-", "M10330=-", "M302404540=2020", "M40550==-205028==3133====10=15=-",
            "M416" + "60=12-".repeat(16)};
        for (String music : scores) {
            for (int v : new int[] {0, 1, 30, 59, 60, 61, 62, 63}) {
                for (int low = 0; low < 64; low++) {
                    for (int high : new int[] {0, 1, 524287}) {
                        int r = rowOf(v, low, high);
                        HandSpans x = Scores.of(music);
                        draw(x, r);
                        int want = x.whole(0) + 1000 * (x.whole(1) + x.whole(2) + x.whole(3));
                        CHECKS.due(music + ", r is " + r, want, Scores.of(music).simulate(seedOf(r), 1));
                    }
                }
            }
        }
    }

    private static void roundsWithHolds() {
        CHECKS.sentence("P25", "holds that follow a rest then become rests in the same round, as by write()");
        for (String music : new String[] {"M20230=40=", "M20330==40==", "M30320==23==45==", "M40230=31=32=33="}) {
            HandSpans x = Scores.of(music);
            for (int seed = 1; seed <= 200; seed++) {
                int m = 1 + seed % 40;
                CHECKS.due(music + ", simulate(" + seed + "," + m + ")", replayed(music, seed, m), x.simulate(seed, m));
            }
        }
    }

    private static void roundsAdded() {
        CHECKS.sentence("P25", "Returns the sum of all costs at the end, plus 1000 times the number of notes "
                + "that are left out for any reason.");
        CHECKS.due("costs alone", 30, round(LEAP, rowOf(20, 0, 0)));
        CHECKS.due("the reason 1", 1000, round("M301404020", rowOf(20, 0, 0)));
        CHECKS.due("the reason 2", 1000, round("M301402820", rowOf(20, 0, 0)));
        CHECKS.due("the reason 3", 1000, round("M301604020", rowOf(20, 0, 0)));
        CHECKS.due("the reason 1, and costs of 10", 1010, round("M302404540=2020", rowOf(40, 2, 0)));
        CHECKS.due("doublings in all beats", 32000, round(FULL_SCORE, rowOf(60, 0, 0)));
    }
}
