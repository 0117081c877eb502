/** Promises 8 to 15: actions and undo. */
public final class ActionTest {
    private static final Checks CHECKS = new Checks();
    private static final Class<IllegalArgumentException> ARGUMENT = IllegalArgumentException.class;
    private static final Class<IllegalStateException> STATE = IllegalStateException.class;
    private static final Class<IndexOutOfBoundsException> INDEX = IndexOutOfBoundsException.class;
    private static final int LEAST = Integer.MIN_VALUE;
    private static final int MOST = Integer.MAX_VALUE;

    public static void main(String[] args) {
        set();
        write();
        writeRefused();
        transpose();
        exchange();
        staff();
        insertBeat();
        removeBeat();
        undo();
        everyActionIsRemembered();
        CHECKS.close();
    }

    private static void music(String what, HandSpans x, String want) {
        String got = Scores.seen(x);
        CHECKS.that(what + ": " + got + ", due is " + want, got.startsWith(want + " "));
    }

    private static void untouched(String what, HandSpans x, String want) {
        music(what, x, want);
        CHECKS.due(what + ": nothing to undo", 0, Scores.undoAll(x));
    }

    private static void set() {
        int[] low = {1, 1, 1, 0, 0, 0};
        int[] high = {24, 24, 5, 9, 1, 1};
        int[] first = {12, 12, 5, 3, 1, 0};
        HandSpans x = new HandSpans();
        for (int w = 0; w < 6; w++) {
            int what = w;
            CHECKS.refused("P8 too low", ARGUMENT, () -> x.set(what, low[what] - 1));
            CHECKS.refused("P8 too high", ARGUMENT, () -> x.set(what, high[what] + 1));
        }
        CHECKS.refused("P8 set(-1)", ARGUMENT, () -> x.set(-1, 1));
        CHECKS.refused("P8 set(6)", ARGUMENT, () -> x.set(6, 1));
        CHECKS.refused("P8 set(far)", ARGUMENT, () -> x.set(LEAST, MOST));
        untouched("P8", x, "M101-");
        for (int what = 0; what < 6; what++) {
            CHECKS.due("P8 the first number", first[what], x.set(what, low[what]));
            CHECKS.due("P8 the low one", low[what], x.set(what, high[what]));
            CHECKS.due("P8 the high one stands", high[what], x.about(what));
        }
        CHECKS.due("P8 the same once more", 24, x.set(0, 24));
        CHECKS.due("P8 is an action, too", 12, x.undo());
        CHECKS.that("P8 others stay", Scores.seen(x).endsWith(" 24 24 5 9 1 1"));
    }

    private static void write() {
        HandSpans x = Scores.of("M20330==---");
        CHECKS.due("P9 what it was: a hold", 99, x.write(0, 1, 45));
        music("P9 the hold behind it has a new note", x, "M2033045=---");
        CHECKS.due("P9 its pitch", 45, x.cell(0, 2, true));
        CHECKS.due("P9 what it was: a note", 30, x.write(0, 0, -1));
        music("P9 a rest", x, "M203-45=---");
        CHECKS.due("P9 back to a hold needs a note", 45, x.write(0, 1, -1));
        music("P9 the hold behind the rest goes", x, "M203------");
        CHECKS.due("P9 what it was: a rest", -9, x.write(1, 2, 60));
        CHECKS.due("P9 lowest", 60, x.write(1, 2, 0));
        x.write(1, 0, 7);
        CHECKS.due("P9 a hold", -9, x.write(1, 1, 99));
        CHECKS.due("P9 a hold behind a hold", 0, x.write(1, 2, 99));
        music("P9 holds", x, "M203---07==");
        CHECKS.due("P9 the same once more", 99, x.write(1, 2, 99));
        x.write(1, 0, -1);
        music("P9 all holds of the row go", x, "M203------");
        x.undo();
        music("P9 and come back", x, "M203---07==");
    }

    private static void writeRefused() {
        HandSpans x = Scores.of("M202-30--");
        CHECKS.refused("P9 hold in beat 0", STATE, () -> x.write(0, 0, 99));
        CHECKS.refused("P9 hold behind a rest", STATE, () -> x.write(0, 1, 99));
        CHECKS.refused("P9 staff -1", INDEX, () -> x.write(-1, 0, 5));
        CHECKS.refused("P9 staff 2", INDEX, () -> x.write(2, 0, 5));
        CHECKS.refused("P9 beat -1", INDEX, () -> x.write(0, -1, 5));
        CHECKS.refused("P9 beat 2", INDEX, () -> x.write(0, 2, 5));
        for (int v : new int[] {-2, -9, 61, 98, 100, LEAST, MOST}) {
            CHECKS.refused("P9 value " + v, ARGUMENT, () -> x.write(0, 0, v));
        }
        CHECKS.refused("P9 place before value", INDEX, () -> x.write(0, 2, 61));
        CHECKS.refused("P9 place before hold", INDEX, () -> x.write(2, 0, 99));
        untouched("P9", x, "M202-30--");
    }

    private static void transpose() {
        HandSpans x = Scores.of("M20430=-5000---");
        CHECKS.due("P10 two notes", 2, x.transpose(0, 10));
        music("P10 up", x, "M20440=-6000---");
        CHECKS.due("P10 a hold follows", 40, x.cell(0, 1, true));
        CHECKS.refused("P10 too high", STATE, () -> x.transpose(0, 1));
        CHECKS.refused("P10 too low", STATE, () -> x.transpose(1, -1));
        CHECKS.refused("P10 61", ARGUMENT, () -> x.transpose(0, 61));
        CHECKS.refused("P10 -61", ARGUMENT, () -> x.transpose(0, -61));
        CHECKS.refused("P10 far", ARGUMENT, () -> x.transpose(0, MOST));
        CHECKS.refused("P10 no staff", INDEX, () -> x.transpose(2, 61));
        CHECKS.refused("P10 no staff", INDEX, () -> x.transpose(-1, 1));
        music("P10 nothing changed", x, "M20440=-6000---");
        CHECKS.due("P10 by 0", 2, x.transpose(0, 0));
        CHECKS.due("P10 down to 0", 2, x.transpose(0, -40));
        music("P10 down", x, "M20400=-2000---");
        CHECKS.due("P10 by 60", 1, x.transpose(1, 60));
        CHECKS.due("P10 by -60", 1, x.transpose(1, -60));
        CHECKS.due("P10 every action is remembered, no refused call", 5, Scores.undoAll(x));
        HandSpans rests = Scores.of("M102--");
        CHECKS.due("P10 rests, up", 0, rests.transpose(0, 60));
        CHECKS.due("P10 rests, down", 0, rests.transpose(0, -60));
    }

    private static void exchange() {
        HandSpans x = Scores.of("M30430=-50--305030=--");
        CHECKS.due("P11 they differ in two beats", 3, x.exchange(0, 1));
        music("P11 exchanged", x, "M304--305030=-5030=--");
        CHECKS.due("P11 as they are written", 1, x.exchange(1, 2));
        music("P11 exchanged", x, "M304--305030=--30=-50");
        CHECKS.due("P11 the same staff", 0, x.exchange(2, 2));
        CHECKS.due("P11 are remembered", 3, Scores.undoAll(x));
        CHECKS.refused("P11 a", INDEX, () -> x.exchange(3, 0));
        CHECKS.refused("P11 a", INDEX, () -> x.exchange(-1, 0));
        CHECKS.refused("P11 b", INDEX, () -> x.exchange(0, 3));
        CHECKS.refused("P11 b", INDEX, () -> x.exchange(0, LEAST));
        untouched("P11", x, "M30430=-50--305030=--");
        HandSpans y = Scores.of("M20230=3030");
        CHECKS.due("P11 a hold and a note of the same pitch differ", 1, y.exchange(0, 1));
    }

    private static void staff() {
        HandSpans x = Scores.of("M10230=");
        CHECKS.refused("P12 none", STATE, () -> x.staff(false));
        untouched("P12", x, "M10230=");
        CHECKS.due("P12 two", 2, x.staff(true));
        x.write(1, 0, 20);
        CHECKS.due("P12 three", 3, x.staff(true));
        CHECKS.due("P12 four", 4, x.staff(true));
        CHECKS.refused("P12 five", STATE, () -> x.staff(true));
        music("P12 rests", x, "M40230=20-----");
        x.write(3, 1, 11);
        CHECKS.due("P12 less", 3, x.staff(false));
        music("P12 the last one goes", x, "M30230=20---");
        CHECKS.due("P12 more", 4, x.staff(true));
        music("P12 rests again", x, "M40230=20-----");
        CHECKS.due("P12 are remembered", 7, Scores.undoAll(x));

        HandSpans y = Scores.of("M2014028");
        CHECKS.due("P12 the bass is kept", 0, y.note(1, 0, 1));
        y.staff(true);
        CHECKS.due("P12 it is an inner staff now", 2, y.note(1, 0, 1));
        y.staff(false);
        CHECKS.due("P12 and the bass again", 0, y.note(1, 0, 1));
    }

    private static void insertBeat() {
        HandSpans x = Scores.of("M20330==102030");
        CHECKS.refused("P13 -1", INDEX, () -> x.insertBeat(-1));
        CHECKS.refused("P13 4", INDEX, () -> x.insertBeat(4));
        CHECKS.refused("P13 far", INDEX, () -> x.insertBeat(MOST));
        untouched("P13", x, "M20330==102030");
        CHECKS.due("P13 at the end", 4, x.insertBeat(3));
        music("P13 at the end", x, "M20430==-102030-");
        CHECKS.due("P13 in a hold", 5, x.insertBeat(2));
        music("P13 the hold behind it goes", x, "M20530=---1020-30-");
        CHECKS.due("P13 at the start", 6, x.insertBeat(0));
        music("P13 at the start", x, "M206-30=----1020-30-");
        for (int beats = 7; beats <= 16; beats++) {
            CHECKS.due("P13 more", beats, x.insertBeat(1));
        }
        CHECKS.refused("P13 17", STATE, () -> x.insertBeat(0));
        CHECKS.refused("P13 17", STATE, () -> x.insertBeat(16));
        CHECKS.refused("P13 the place is named first", INDEX, () -> x.insertBeat(17));
        HandSpans y = Scores.of("M203102030405060");
        y.insertBeat(1);
        music("P13 the ones behind it move down", y, "M20410-203040-5060");
        CHECKS.due("P13 are remembered", 13, Scores.undoAll(x));
        music("P13 undone", x, "M20330==102030");
    }

    private static void removeBeat() {
        HandSpans x = Scores.of("M20530==-50-10=3020");
        CHECKS.refused("P14 -1", INDEX, () -> x.removeBeat(-1));
        CHECKS.refused("P14 5", INDEX, () -> x.removeBeat(5));
        untouched("P14", x, "M20530==-50-10=3020");
        CHECKS.due("P14 the first", 4, x.removeBeat(0));
        music("P14 its holds go", x, "M204---5010=3020");
        CHECKS.due("P14 inside", 3, x.removeBeat(2));
        music("P14 the ones behind it move up", x, "M203--5010=20");
        CHECKS.due("P14 the last", 2, x.removeBeat(2));
        music("P14 the last", x, "M202--10=");
        x.insertBeat(2);
        music("P14 a new beat is rests", x, "M203---10=-");
        x.undo();
        x.removeBeat(1);
        CHECKS.refused("P14 the only one", STATE, () -> x.removeBeat(0));
        CHECKS.refused("P14 the place is named first", INDEX, () -> x.removeBeat(1));
        music("P14 nothing changed", x, "M201-10");
        CHECKS.due("P14 are remembered", 4, Scores.undoAll(x));

        HandSpans y = Scores.of("M1043040=-");
        y.removeBeat(1);
        music("P14 a hold takes the note before it", y, "M10330=-");
        CHECKS.due("P14 its pitch", 30, y.cell(0, 1, true));
        HandSpans z = Scores.of("M104-40==");
        z.removeBeat(1);
        music("P14 holds behind a rest go", z, "M103---");
    }

    private static void undo() {
        HandSpans x = Scores.of("M10130");
        CHECKS.refused("P15 none", STATE, x::undo);
        for (int v = 1; v <= 14; v++) {
            x.write(0, 0, v);
        }
        for (int left = 13; left >= 0; left--) {
            CHECKS.due("P15 how many are left", left, x.undo());
            CHECKS.due("P15 the note before", left == 0 ? 30 : left, x.cell(0, 0, false));
        }
        CHECKS.refused("P15 none is left", STATE, x::undo);
        for (int v = 1; v <= 20; v++) {
            x.write(0, 0, v);
        }
        CHECKS.due("P15 only 14 are remembered", 14, Scores.undoAll(x));
        CHECKS.due("P15 the older ones are forgotten", 6, x.cell(0, 0, false));
        x.write(0, 0, 50);
        x.write(0, 0, 51);
        CHECKS.due("P15 back", 1, x.undo());
        x.write(0, 0, 52);
        CHECKS.due("P15 undo is no action", 1, x.undo());
        CHECKS.due("P15 the branch", 50, x.cell(0, 0, false));
        x.append('M');
        x.undo();
        CHECKS.due("P15 the text is no part of the state", 7, x.clearText());
    }

    private static void everyActionIsRemembered() {
        HandSpans x = Scores.of("M2023030--");
        String first = Scores.seen(x);
        x.set(2, 4);
        x.write(0, 0, 31);
        x.transpose(0, 3);
        x.exchange(0, 1);
        x.staff(true);
        x.insertBeat(0);
        x.removeBeat(1);
        x.save(0);
        x.whatIf(0, 3, 0);
        x.simulate(5, 9);
        x.runScript(1, 20033);
        x.smallestSpan();
        x.dearest();
        x.bestTransposition(0);
        x.errorPosition();
        CHECKS.due("P15 seven actions, no other call", 6, x.undo());
        CHECKS.due("P15 all of them", 6, Scores.undoAll(x));
        CHECKS.that("P15 as at first", Scores.seen(x).equals(first));
    }
}
