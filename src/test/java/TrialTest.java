/** Promises 20 to 25: other settings, other music, scripts and simulations. */
public final class TrialTest {
    private static final Checks CHECKS = new Checks();
    private static final Class<IllegalArgumentException> ARGUMENT = IllegalArgumentException.class;
    private static final Class<IndexOutOfBoundsException> INDEX = IndexOutOfBoundsException.class;
    private static final int NONE = HandSpans.NONE;
    private static final String LEAP = "M2022050-20";

    public static void main(String[] args) {
        whatIf();
        smallestSpan();
        dearest();
        bestTransposition();
        scriptArguments();
        scriptSettings();
        scriptCells();
        scriptStavesAndBeats();
        scriptQuestions();
        scriptSequences();
        simulate();
        CHECKS.close();
    }

    private static void unchanged(HandSpans x, String music) {
        CHECKS.that("changes nothing", Scores.seen(x).equals(music + " 12 12 5 3 1 0"));
        CHECKS.due("is no action", 0, Scores.undoAll(x));
    }

    private static void whatIf() {
        HandSpans x = Scores.of(LEAP);
        CHECKS.due("P20 as it is", 30, x.whatIf(5, 0, 0));
        CHECKS.due("P20 the other mode", 0, x.whatIf(5, 1, 0));
        CHECKS.due("P20 moves", 30, x.whatIf(0, 24, 6));
        HandSpans chord = Scores.of("M40140283320");
        CHECKS.due("P20 no octave rule", 0, chord.whatIf(4, 0, 2));
        CHECKS.due("P20 notes then", 4, chord.whatIf(4, 0, 7));
        CHECKS.due("P20 one finger", 1, chord.whatIf(2, 1, 3));
        CHECKS.due("P20 a small right hand, rolled", 5, chord.whatIf(1, 4, 0));
        int[] high = {24, 24, 5, 9, 1, 1};
        int[] low = {1, 1, 1, 0, 0, 0};
        for (int w = 0; w < 6; w++) {
            int what = w;
            CHECKS.refused("P20 too high", ARGUMENT, () -> x.whatIf(what, high[what] + 1, 0));
            CHECKS.refused("P20 too low", ARGUMENT, () -> x.whatIf(what, low[what] - 1, 0));
            CHECKS.refused("P20 of -1", ARGUMENT, () -> x.whatIf(what, high[what], -1));
            CHECKS.refused("P20 of 8", ARGUMENT, () -> x.whatIf(what, low[what], 8));
        }
        CHECKS.refused("P20 what -1", ARGUMENT, () -> x.whatIf(-1, 1, 0));
        CHECKS.refused("P20 what 6", ARGUMENT, () -> x.whatIf(6, 1, 0));
        unchanged(x, LEAP);
    }

    private static void smallestSpan() {
        HandSpans x = Scores.of("M301403320");
        CHECKS.due("P21 with rolls", 4, x.smallestSpan());
        x.set(3, 0);
        CHECKS.due("P21 without", 7, x.smallestSpan());
        x.set(0, 1);
        x.set(1, 24);
        CHECKS.due("P21 both spans are tried", 7, x.smallestSpan());
        x.set(2, 1);
        CHECKS.due("P21 no fingers, no span", NONE, x.smallestSpan());
        HandSpans one = Scores.of("M10130");
        CHECKS.due("P21 the smallest one", 1, one.smallestSpan());
        HandSpans wide = Scores.of("M301603000");
        CHECKS.due("P21 30 is a tenth too wide", NONE, wide.whatIf(3, 0, 0) == 0 ? reached(wide, 0) : 0);
        CHECKS.due("P21 rolled it can be reached", 21, reached(wide, 9));
        CHECKS.due("P21 as far as 24", 24, reached(wide, 6));
        CHECKS.due("P21 not beyond", NONE, reached(wide, 5));
        CHECKS.due("P21 holds are not rolled", NONE, Scores.of("M3026060303000=").smallestSpan());
        HandSpans same = Scores.of("M301403320");
        same.smallestSpan();
        unchanged(same, "M301403320");
    }

    private static int reached(HandSpans x, int reach) {
        x.set(4, 0);
        x.set(3, reach);
        return x.smallestSpan();
    }

    private static void dearest() {
        String music = "M40111202510";
        HandSpans x = Scores.of(music);
        unchanged(x, music);
        x.set(0, 2);
        x.set(1, 2);
        x.set(3, 9);
        CHECKS.due("P22 the upper notes are rolled", 5, x.whole(0));
        CHECKS.due("P22 without 20 or 25 nothing is; the smaller number", 1, x.dearest());
        x.exchange(1, 3);
        CHECKS.due("P22 25 stands in staff 2, 20 in staff 3", 2, x.dearest());
        x.exchange(0, 2);
        CHECKS.due("P22 the melody", 0, x.dearest());
        CHECKS.due("P22 of equal ones the smallest", 0, Scores.of(LEAP).dearest());
        HandSpans one = new HandSpans();
        CHECKS.due("P22 one staff", 0, one.dearest());
        one.dearest();
        CHECKS.due("P22 is no action", 0, Scores.undoAll(one));
        HandSpans chord = Scores.of(music);
        chord.dearest();
        unchanged(chord, music);
    }

    private static void bestTransposition() {
        HandSpans x = Scores.of(LEAP);
        CHECKS.due("P23 the bass up to the melody", 18, x.bestTransposition(1));
        CHECKS.due("P23 the melody down to the bass", -18, x.bestTransposition(0));
        CHECKS.refused("P23 staff -1", INDEX, () -> x.bestTransposition(-1));
        CHECKS.refused("P23 staff 2", INDEX, () -> x.bestTransposition(2));
        unchanged(x, LEAP);
        HandSpans both = Scores.of("M20233382034");
        CHECKS.due("P23 it costs 1", 1, both.whole(0));
        CHECKS.due("P23 of two the positive one", 1, both.bestTransposition(0));
        both.transpose(0, -1);
        CHECKS.due("P23 the negative one is as good", 0, both.whole(0));
        CHECKS.due("P23 a staff of rests", 0, new HandSpans().bestTransposition(0));
        CHECKS.due("P23 nothing to gain", 0, Scores.of("M10230=").bestTransposition(0));
        CHECKS.due("P23 in the range", 0, Scores.of("M1020060").bestTransposition(0));
        HandSpans down = Scores.of("M202-600000");
        down.set(2, 1);
        CHECKS.due("P23 as far down as can be", -60, down.bestTransposition(0));
        HandSpans up = Scores.of("M2026000-00");
        up.set(2, 1);
        CHECKS.due("P23 as far up as can be", 60, up.bestTransposition(1));
    }

    private static void fails(HandSpans x, int n, long script, int at) {
        CHECKS.due("P24 runScript(" + n + "," + script + ")", at, x.runScript(n, script));
    }

    private static void scriptArguments() {
        HandSpans x = Scores.of(LEAP);
        for (int n : new int[] {Integer.MIN_VALUE, -1, 0, 4, Integer.MAX_VALUE}) {
            CHECKS.refused("P24 n", ARGUMENT, () -> x.runScript(n, 0));
        }
        for (long script : new long[] {-1, Long.MIN_VALUE, 1000000000000000L, Long.MAX_VALUE}) {
            CHECKS.refused("P24 script", ARGUMENT, () -> x.runScript(3, script));
        }
        CHECKS.refused("P24 six digits", ARGUMENT, () -> x.runScript(1, 100000));
        CHECKS.refused("P24 eleven digits", ARGUMENT, () -> x.runScript(2, 10000000000L));
        fails(x, 1, 99999, 0);
        fails(x, 2, 9999999999L, 0);
        fails(x, 3, 999999999999999L, 0);
        fails(x, 1, 0, 0);
        fails(x, 3, 20030, 0);
        fails(x, 1, 9999, 0);
        unchanged(x, LEAP);
    }

    private static void scriptSettings() {
        HandSpans x = Scores.of(LEAP);
        int[] low = {1, 1, 1, 0, 0, 0};
        int[] high = {24, 24, 5, 9, 1, 1};
        for (int w = 0; w < 6; w++) {
            fails(x, 1, 10000 + 1000 * w + low[w], NONE);
            fails(x, 1, 10000 + 1000 * w + high[w], NONE);
            fails(x, 1, 10000 + 1000 * w + high[w] + 1, 0);
            if (low[w] == 1) {
                fails(x, 1, 10000 + 1000 * w, 0);
            }
            fails(x, 1, 10000 + 1000 * w + 101, 0);
        }
        fails(x, 1, 16001, 0);
        fails(x, 2, 1500170000L, NONE);
        fails(x, 2, 1500070030L, NONE);
        unchanged(x, LEAP);
    }

    private static void scriptCells() {
        HandSpans x = Scores.of(LEAP);
        fails(x, 1, 20060, NONE);
        fails(x, 1, 20061, 0);
        fails(x, 1, 20199, 0);
        fails(x, 1, 21100, NONE);
        fails(x, 1, 22000, 0);
        fails(x, 1, 20200, 0);
        fails(x, 1, 30000, NONE);
        fails(x, 1, 31100, NONE);
        fails(x, 1, 30001, 0);
        fails(x, 1, 30010, 0);
        fails(x, 1, 32000, 0);
        fails(x, 1, 30200, 0);
        fails(x, 1, 40100, NONE);
        fails(x, 1, 41100, 0);
        fails(x, 1, 40000, 0);
        fails(x, 1, 40101, 0);
        fails(x, 1, 40110, 0);
        fails(x, 1, 42100, 0);
        fails(x, 1, 40200, 0);
        fails(x, 3, 401003000090100L, 2);
        fails(x, 3, 210094110077004L, NONE);
        fails(x, 3, 210094110077003L, 2);
        unchanged(x, LEAP);
    }

    private static void scriptStavesAndBeats() {
        HandSpans x = Scores.of(LEAP);
        fails(x, 1, 50010, NONE);
        fails(x, 1, 50110, NONE);
        fails(x, 1, 50020, 0);
        fails(x, 1, 50200, 0);
        fails(x, 1, 50011, 0);
        fails(x, 1, 51010, 0);
        fails(x, 2, 5001091000L, NONE);
        fails(x, 2, 5001090000L, 1);
        fails(x, 2, 5001091100L, NONE);
        fails(x, 1, 60000, NONE);
        fails(x, 1, 60100, NONE);
        fails(x, 1, 60200, 0);
        fails(x, 1, 61000, 0);
        fails(x, 1, 60001, 0);
        fails(x, 1, 60010, 0);
        fails(x, 2, 6000060000L, 1);
        fails(x, 2, 6000090100L, 1);
        fails(x, 2, 6000090000L, NONE);
        HandSpans hold = Scores.of("M10330=-");
        fails(hold, 2, 6000090000L, 1);
        fails(hold, 2, 6000040100L, 1);
        HandSpans sixteen = Scores.of("M11630" + "=".repeat(15));
        fails(sixteen, 1, 61500, NONE);
        fails(sixteen, 1, 61600, 0);
        fails(sixteen, 2, 6150061500L, 1);
        fails(sixteen, 1, 40900, NONE);
        unchanged(x, LEAP);
    }

    private static void scriptQuestions() {
        HandSpans x = Scores.of(LEAP);
        fails(x, 1, 70030, NONE);
        fails(x, 1, 70000, 0);
        fails(x, 1, 76030, NONE);
        fails(x, 1, 77003, NONE);
        fails(x, 1, 77103, 0);
        fails(x, 1, 78000, 0);
        fails(x, 1, 79003, 0);
        fails(x, 1, 80001, NONE);
        fails(x, 1, 80000, 0);
        fails(x, 1, 80009, 0);
        fails(x, 1, 81100, NONE);
        fails(x, 1, 81110, 0);
        fails(x, 1, 81000, 0);
        fails(x, 1, 82000, 0);
        fails(x, 1, 80201, 0);
        fails(x, 1, 90000, NONE);
        fails(x, 1, 90010, 0);
        fails(x, 1, 90001, 0);
        fails(x, 1, 91000, 0);
        fails(x, 1, 91009, 0);
        fails(x, 1, 90200, 0);
        fails(x, 1, 92000, 0);
        HandSpans chord = Scores.of("M40140283320");
        fails(chord, 1, 91002, NONE);
        fails(chord, 1, 91000, 0);
        fails(chord, 1, 91001, 0);
        fails(chord, 1, 81000, 0);
        fails(chord, 1, 81001, 0);
        fails(chord, 2, 1200192003L, NONE);
        fails(chord, 2, 2102091001L, NONE);
        HandSpans dearer = Scores.of("M216" + "3060".repeat(8) + "0030".repeat(8));
        dearer.set(2, 1);
        CHECKS.due("P24 costs of 900", 900, dearer.whole(0));
        fails(dearer, 1, 70900, NONE);
        fails(dearer, 1, 70899, 0);
        HandSpans dearest = Scores.of("M216" + "0060".repeat(8) + "0060".repeat(8));
        dearest.set(2, 1);
        CHECKS.due("P24 a number above 999", 1800, dearest.whole(0));
        fails(dearest, 1, 70800, 0);
        fails(dearest, 1, 70999, 0);
    }

    private static void scriptSequences() {
        HandSpans x = Scores.of(LEAP);
        fails(x, 3, 200502005070030L, 2);
        fails(x, 3, 200202012070000L, NONE);
        fails(x, 3, 900009000090100L, NONE);
        fails(x, 3, 900019000090100L, 0);
        fails(x, 3, 900009000190100L, 1);
        fails(x, 3, 900009000090101L, 2);
        fails(x, 2, 9000090100L, NONE);
        unchanged(x, LEAP);
    }

    private static void simulate() {
        HandSpans x = Scores.of(LEAP);
        CHECKS.refused("P25 0 rounds", ARGUMENT, () -> x.simulate(1, 0));
        CHECKS.refused("P25 41 rounds", ARGUMENT, () -> x.simulate(1, 41));
        CHECKS.refused("P25 far", ARGUMENT, () -> x.simulate(1, Integer.MIN_VALUE));
        CHECKS.due("P25 as before", x.simulate(77, 40), x.simulate(77, 40));
        unchanged(x, LEAP);
        // Of seed 0, the rounds are: 54 at 1 1, 28 at 0 0, 48 at 1 0, 53 at 0 1, 25 at 1 1, a hold at 1 0.
        HandSpans two = Scores.of("M20240402020");
        two.set(2, 1);
        int[] want = {34, 46, 18, 31, 8, 8};
        for (int m = 1; m <= want.length; m++) {
            CHECKS.due("P25 " + m + " rounds", want[m - 1], two.simulate(0, m));
        }
        CHECKS.due("P25 a note is left out", 1000, Scores.of("M301404020").simulate(0, 1));
        for (long seed = -30; seed <= 30; seed++) {
            replay("M20430=-2050==-", seed * seed * seed * 1000003, 40);
            replay("M40340=52484036403128202020", seed, 9);
            replay("M305-----30====20-20--", Long.MAX_VALUE - seed, 25);
        }
    }

    /** The rounds once more, by write(). */
    private static void replay(String music, long seed, int m) {
        HandSpans x = Scores.of(music);
        long r = seed;
        for (int i = 0; i < m; i++) {
            r = r * 6364136223846793005L + 1442695040888963407L;
            int drawn = (int) (r >>> 33);
            int s = drawn % x.about(6);
            int b = drawn / 4 % x.about(7);
            int v = drawn / 64 % 64;
            Checks.outcome(() -> x.write(s, b, v <= 60 ? v : v == 61 ? -1 : 99));
        }
        int want = x.whole(0) + 1000 * (x.whole(1) + x.whole(2) + x.whole(3));
        CHECKS.due("P25 as written of " + music + " by " + seed, want, Scores.of(music).simulate(seed, m));
    }
}
