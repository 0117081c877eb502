/** Promises 8 to 15, with the descriptions of actions and undo: each sentence with an edge, just inside and outside. */
public final class ActionEdgesTest {
    private static final Checks CHECKS = new Checks();
    private static final Class<IllegalArgumentException> ARGUMENT = IllegalArgumentException.class;
    private static final Class<IllegalStateException> STATE = IllegalStateException.class;
    private static final Class<IndexOutOfBoundsException> INDEX = IndexOutOfBoundsException.class;
    private static final int NONE = -9;
    private static final int LEAST = Integer.MIN_VALUE;
    private static final int MOST = Integer.MAX_VALUE;
    private static final int[] LOW = {1, 1, 1, 0, 0, 0};
    private static final int[] HIGH = {24, 24, 5, 9, 1, 1};
    private static final String SMALL = "M20230=4044";
    private static final String ONE = "M10130";
    private static final String FULL_SCORE = "M416" + "60".repeat(64);

    public static void main(String[] args) {
        settings();
        settingsApart();
        setRefused();
        writePlaces();
        writeValues();
        writeHolds();
        writeRefusalsInOrder();
        writeAnswers();
        looseHolds();
        holdsThatStay();
        transposeRange();
        transposePitches();
        transposeRefusalsInOrder();
        transposeAnswers();
        exchangeStaves();
        exchangeAnswers();
        exchangeOuterStaves();
        staves();
        bassAndInnerStaff();
        insertPlaces();
        insertIntoFullMusic();
        insertedBeat();
        removePlaces();
        onlyBeat();
        removedBeat();
        undoCounts();
        undoForgets();
        undoNothing();
        actionsWithoutEffect();
        actionsOfEachKind();
        undoneSettings();
        callsThatAreNoActions();
        notPartOfTheState();
        fiveHundredAndTwelveCalls();
        CHECKS.close();
    }

    private static void done(String music, String what, long answer, String after, Checks.Deed deed) {
        HandSpans x = Scores.of(music);
        CHECKS.due(music + ", " + what, answer, deed.on(x));
        CHECKS.due(music + ", " + what + ": the music then", after, Scores.music(x));
        CHECKS.due(music + ", " + what + ": what is remembered", 0, x.undo());
        CHECKS.due(music + ", " + what + ": taken back", music + " 12 12 5 3 1 0", Scores.seen(x));
    }

    // ---- promise 8

    private static void settings() {
        CHECKS.sentence("P8", "v: new number, in its range. Returns the previous number.");
        for (int what = 0; what < 6; what++) {
            HandSpans x = new HandSpans();
            int before = x.about(what);
            for (int v = LOW[what]; v <= HIGH[what]; v++) {
                CHECKS.due("set(" + what + "," + v + ")", before, x.set(what, v));
                CHECKS.due("it stands", v, x.about(what));
                before = v;
            }
            CHECKS.due("the same once more", HIGH[what], x.set(what, HIGH[what]));
            CHECKS.due("back to the least", HIGH[what], x.set(what, LOW[what]));
        }
    }

    private static void settingsApart() {
        CHECKS.sentence("P8", "Changes a setting: this one alone");
        for (int what = 0; what < 6; what++) {
            HandSpans x = Scores.of(SMALL);
            x.set(what, HIGH[what] == x.about(what) ? LOW[what] : HIGH[what]);
            StringBuilder want = new StringBuilder(SMALL);
            int[] first = {12, 12, 5, 3, 1, 0};
            for (int other = 0; other < 6; other++) {
                want.append(' ').append(other == what ? x.about(what) : first[other]);
            }
            CHECKS.due("after set(" + what + ")", want.toString(), Scores.seen(x));
        }
    }

    private static void setRefused() {
        CHECKS.sentence("P8", "Throws IllegalArgumentException if what is not 0 to 5, or v is out of range");
        for (int w = 0; w < 6; w++) {
            int what = w;
            for (int v : new int[] {LOW[w] - 1, HIGH[w] + 1, LEAST, MOST, -9}) {
                CHECKS.refusedIn(SMALL, "set(" + what + "," + v + ")", ARGUMENT, x -> x.set(what, v));
            }
        }
        for (int what : new int[] {-1, 6, 9, LEAST, MOST}) {
            for (int v : new int[] {0, 1, 5}) {
                CHECKS.refusedIn(SMALL, "set(" + what + "," + v + ")", ARGUMENT, x -> x.set(what, v));
            }
        }
    }

    // ---- promise 9

    private static void writePlaces() {
        CHECKS.sentence("P9", "Throws IndexOutOfBoundsException if there is no such staff or beat");
        done("M101-", "write(0,0,30)", NONE, ONE, x -> x.write(0, 0, 30));
        done("M401----", "write(3,0,30)", NONE, "M401---30", x -> x.write(3, 0, 30));
        done("M116" + "-".repeat(16), "write(0,15,30)", NONE, "M116" + "-".repeat(15) + "30", x -> x.write(0, 15, 30));
        done(FULL_SCORE, "write(3,15,0)", 60, "M416" + "60".repeat(63) + "00", x -> x.write(3, 15, 0));
        int[][] staves = {{-1, 0}, {2, 0}, {3, 1}, {LEAST, 0}, {MOST, 0}};
        int[][] beats = {{0, -1}, {0, 2}, {1, 2}, {1, 15}, {1, LEAST}, {1, MOST}};
        for (int v : new int[] {-1, 0, 60, 99}) {
            for (int[] at : staves) {
                CHECKS.refusedIn(SMALL, "write, no staff", INDEX, x -> x.write(at[0], at[1], v));
            }
            for (int[] at : beats) {
                CHECKS.refusedIn(SMALL, "write, no beat", INDEX, x -> x.write(at[0], at[1], v));
            }
        }
        CHECKS.refusedIn(FULL_SCORE, "write(4,0,30)", INDEX, x -> x.write(4, 0, 30));
        CHECKS.refusedIn(FULL_SCORE, "write(0,16,30)", INDEX, x -> x.write(0, 16, 30));
    }

    private static void writeValues() {
        CHECKS.sentence("P9", "v: a pitch, 0 to 60, for a struck note; 99 for a hold; -1 for a rest");
        for (int v = 0; v <= 60; v++) {
            int pitch = v;
            String want = "M102" + v / 10 + v % 10 + "40";
            done("M1022040", "write(0,0," + v + ")", 20, want, x -> x.write(0, 0, pitch));
        }
        done("M1022040", "write(0,1,99)", 40, "M10220=", x -> x.write(0, 1, 99));
        done("M1022040", "write(0,1,-1)", 40, "M10220-", x -> x.write(0, 1, -1));
        CHECKS.sentence("P9", "Throws IllegalArgumentException if v is none of these");
        for (int v : new int[] {-2, NONE, LEAST, 61, 98, 100, 127, MOST}) {
            for (int b = 0; b < 2; b++) {
                int beat = b;
                CHECKS.refusedIn("M1022040", "write(0," + b + "," + v + ")", ARGUMENT, x -> x.write(0, beat, v));
            }
        }
    }

    private static void writeHolds() {
        CHECKS.sentence("P9", "Throws IllegalStateException if v is 99, and b is 0 or the cell before is a rest");
        CHECKS.refusedIn(ONE, "write(0,0,99)", STATE, x -> x.write(0, 0, 99));
        CHECKS.refusedIn("M101-", "write(0,0,99)", STATE, x -> x.write(0, 0, 99));
        CHECKS.refusedIn(SMALL, "write(1,0,99): the first staff ends with a hold", STATE, x -> x.write(1, 0, 99));
        CHECKS.refusedIn("M2023040--", "write(1,0,99): the first staff ends with a note", STATE,
                x -> x.write(1, 0, 99));
        CHECKS.refusedIn("M203-30----", "write(0,1,99)", STATE, x -> x.write(0, 1, 99));
        CHECKS.refusedIn("M20330---4050", "write(1,1,99): the other staff has a note", STATE, x -> x.write(1, 1, 99));
        CHECKS.refusedIn("M10330-40", "write(0,2,99): a note before the rest", STATE, x -> x.write(0, 2, 99));
        done("M1020050", "write(0,1,99) behind the lowest note", 50, "M10200=", x -> x.write(0, 1, 99));
        done("M10260-", "write(0,1,99) behind the highest note", NONE, "M10260=", x -> x.write(0, 1, 99));
        done("M10330=-", "write(0,2,99) behind a hold", NONE, "M10330==", x -> x.write(0, 2, 99));
        done("M10230=", "write(0,1,99) on a hold", 99, "M10230=", x -> x.write(0, 1, 99));
        done("M11630" + "=".repeat(14) + "-", "write(0,15,99)", NONE, "M11630" + "=".repeat(15),
                x -> x.write(0, 15, 99));
    }

    private static void writeRefusalsInOrder() {
        CHECKS.sentence("EXCEPTIONS", "If several exceptions apply to a call, the one that its description names "
                + "first is thrown: write");
        for (int v : new int[] {61, -2, 99, LEAST}) {
            CHECKS.refusedIn(SMALL, "no staff, and v", INDEX, x -> x.write(2, 0, v));
            CHECKS.refusedIn(SMALL, "no staff, and v", INDEX, x -> x.write(-1, 0, v));
            CHECKS.refusedIn(SMALL, "no beat, and v", INDEX, x -> x.write(0, 2, v));
            CHECKS.refusedIn(SMALL, "no beat, and v", INDEX, x -> x.write(0, -1, v));
        }
    }

    private static void writeAnswers() {
        CHECKS.sentence("P9", "Returns what the cell was, as told by cell(s, b, false).");
        String music = "M10400=-60";
        int[] was = {0, 99, NONE, 60};
        String[] then = {"M10405=-60", "M1040005-60", "M10400=0560", "M10400=-05"};
        for (int i = 0; i < was.length; i++) {
            int b = i;
            done(music, "write(0," + b + ",5)", was[b], then[b], x -> x.write(0, b, 5));
        }
    }

    private static void looseHolds() {
        CHECKS.sentence("ACTIONS AND UNDO", "every hold that follows a rest or is in beat 0 becomes a rest, from "
                + "beat 0 on");
        String held = "M11630" + "=".repeat(15);
        done(held, "write(0,0,-1)", 30, "M116" + "-".repeat(16), x -> x.write(0, 0, -1));
        done(held, "write(0,14,-1)", 99, "M11630" + "=".repeat(13) + "--", x -> x.write(0, 14, -1));
        done(held, "write(0,15,-1)", 99, "M11630" + "=".repeat(14) + "-", x -> x.write(0, 15, -1));
        done("M20630==40==50=====", "write(0,0,-1)", 30, "M206---40==50=====", x -> x.write(0, 0, -1));
        done("M20630==40==50=====", "write(1,1,-1)", 99, "M20630==40==50-----", x -> x.write(1, 1, -1));
        done(held, "removeBeat(0)", 15, "M115" + "-".repeat(15),
                x -> x.removeBeat(0));
        done("M20430==4050=60=", "removeBeat(0)", 3, "M203--40-60=", x -> x.removeBeat(0));
        done("M20430==4050=60=", "insertBeat(1)", 5, "M20530---4050--60=", x -> x.insertBeat(1));
        done("M20430==4050=60=", "insertBeat(2)", 5, "M20530=--4050=-60=", x -> x.insertBeat(2));
        done("M20430==4050=60=", "insertBeat(3)", 5, "M20530==-4050=60--", x -> x.insertBeat(3));
    }

    private static void holdsThatStay() {
        CHECKS.sentence("ACTIONS AND UNDO", "every hold that follows a rest or is in beat 0 becomes a rest: no "
                + "other one");
        done("M10430===", "write(0,0,31)", 30, "M10431===", x -> x.write(0, 0, 31));
        done("M10430===", "write(0,1,31)", 99, "M1043031==", x -> x.write(0, 1, 31));
        done("M10530=40==", "write(0,2,99)", 40, "M10530====", x -> x.write(0, 2, 99));
        done("M10430=40=", "removeBeat(2)", 3, "M10330==", x -> x.removeBeat(2));
        done("M20330==---", "insertBeat(0)", 4, "M204-30==----", x -> x.insertBeat(0));
        done("M20330==---", "insertBeat(3)", 4, "M20430==-----", x -> x.insertBeat(3));
        done("M20330==---", "exchange", 3, "M203---30==", x -> x.exchange(0, 1));
        done("M20330==---", "transpose", 1, "M20305==---", x -> x.transpose(0, -25));
        done("M20330==---", "staff", 3, "M30330==------", x -> x.staff(true));
        done("M20330==---", "set", 0, "M20330==---", x -> x.set(5, 1));
    }

    // ---- promise 10

    private static void transposeRange() {
        CHECKS.sentence("P10", "by: -60 to 60");
        done("M10100", "transpose(0,60)", 1, "M10160", x -> x.transpose(0, 60));
        done("M10160", "transpose(0,-60)", 1, "M10100", x -> x.transpose(0, -60));
        done("M101-", "transpose(0,60)", 0, "M101-", x -> x.transpose(0, 60));
        done("M101-", "transpose(0,-60)", 0, "M101-", x -> x.transpose(0, -60));
        CHECKS.sentence("P10", "Throws IllegalArgumentException if by is out of range");
        for (int by : new int[] {-61, 61, LEAST, MOST}) {
            CHECKS.refusedIn("M2013000", "transpose(0," + by + ")", ARGUMENT, x -> x.transpose(0, by));
            CHECKS.refusedIn("M101-", "of rests, transpose(0," + by + ")", ARGUMENT, x -> x.transpose(0, by));
        }
        CHECKS.sentence("P10", "Throws IndexOutOfBoundsException if there is no such staff");
        for (int s : new int[] {-1, 2, 3, LEAST, MOST}) {
            CHECKS.refusedIn(SMALL, "transpose(" + s + ",1)", INDEX, x -> x.transpose(s, 1));
            CHECKS.refusedIn(SMALL, "transpose(" + s + ",0)", INDEX, x -> x.transpose(s, 0));
        }
        CHECKS.refusedIn(FULL_SCORE, "transpose(4,-1)", INDEX, x -> x.transpose(4, -1));
        done("M40130303030", "transpose(3,1)", 1, "M40130303031", x -> x.transpose(3, 1));
    }

    private static void transposePitches() {
        CHECKS.sentence("P10", "Throws IllegalStateException if a pitch would be out of range");
        done("M20330=5910--", "transpose(0,1)", 2, "M20331=6010--", x -> x.transpose(0, 1));
        CHECKS.refusedIn("M20330=5910--", "transpose(0,2)", STATE, x -> x.transpose(0, 2));
        CHECKS.refusedIn("M20359=3010--", "transpose(0,2)", STATE, x -> x.transpose(0, 2));
        done("M20330=0159--", "transpose(0,-1)", 2, "M20329=0059--", x -> x.transpose(0, -1));
        CHECKS.refusedIn("M20330=0159--", "transpose(0,-2)", STATE, x -> x.transpose(0, -2));
        CHECKS.refusedIn("M20301=3059--", "transpose(0,-2)", STATE, x -> x.transpose(0, -2));
        for (int pitch = 0; pitch <= 60; pitch++) {
            String music = "M102-" + pitch / 10 + pitch % 10;
            int up = 60 - pitch;
            int down = -pitch;
            done(music, "transpose(0," + up + ")", 1, "M102-60", x -> x.transpose(0, up));
            done(music, "transpose(0," + down + ")", 1, "M102-00", x -> x.transpose(0, down));
            CHECKS.refusedIn(music, "too far up", pitch == 0 ? ARGUMENT : STATE, x -> x.transpose(0, up + 1));
            CHECKS.refusedIn(music, "too far down", pitch == 60 ? ARGUMENT : STATE, x -> x.transpose(0, down - 1));
        }
        CHECKS.sentence("P10", "Transposes a staff: no other one, and no other one is in the way");
        done("M3016030-", "transpose(1,30)", 1, "M3016060-", x -> x.transpose(1, 30));
    }

    private static void transposeRefusalsInOrder() {
        CHECKS.sentence("EXCEPTIONS", "If several exceptions apply to a call, the one that its description names "
                + "first is thrown: transpose");
        for (int by : new int[] {-61, 61, LEAST, MOST}) {
            CHECKS.refusedIn(SMALL, "no staff, and by", INDEX, x -> x.transpose(2, by));
            CHECKS.refusedIn(SMALL, "no staff, and by", INDEX, x -> x.transpose(-1, by));
            CHECKS.refusedIn(SMALL, "by, and a pitch", ARGUMENT, x -> x.transpose(0, by));
        }
        CHECKS.refusedIn(FULL_SCORE, "no staff, and a pitch", INDEX, x -> x.transpose(4, 60));
    }

    private static void transposeAnswers() {
        CHECKS.sentence("P10", "Returns the number of struck notes of the staff (also if by is 0).");
        done(FULL_SCORE, "transpose(2,0)", 16, FULL_SCORE, x -> x.transpose(2, 0));
        done("M20430=-405000-60", "transpose(0,0)", 2, "M20430=-405000-60", x -> x.transpose(0, 0));
        done("M20430=-405000-60", "transpose(1,0)", 3, "M20430=-405000-60", x -> x.transpose(1, 0));
        done("M20430=-405000-60", "transpose(0,5)", 2, "M20435=-455000-60", x -> x.transpose(0, 5));
        done("M202--3040", "transpose(0,0)", 0, "M202--3040", x -> x.transpose(0, 0));
    }

    // ---- promise 11

    private static void exchangeStaves() {
        CHECKS.sentence("P11", "Throws IndexOutOfBoundsException if there is no such staff");
        for (int wrong : new int[] {-1, 2, 3, LEAST, MOST}) {
            CHECKS.refusedIn(SMALL, "exchange(" + wrong + ",0)", INDEX, x -> x.exchange(wrong, 0));
            CHECKS.refusedIn(SMALL, "exchange(1," + wrong + ")", INDEX, x -> x.exchange(1, wrong));
            CHECKS.refusedIn(SMALL, "exchange, both", INDEX, x -> x.exchange(wrong, wrong));
        }
        CHECKS.refusedIn(ONE, "exchange(0,1)", INDEX, x -> x.exchange(0, 1));
        CHECKS.refusedIn(FULL_SCORE, "exchange(4,3)", INDEX, x -> x.exchange(4, 3));
        CHECKS.refusedIn(FULL_SCORE, "exchange(0,4)", INDEX, x -> x.exchange(0, 4));
        CHECKS.sentence("P11", "b: staff (perhaps the same)");
        done(ONE, "exchange(0,0)", 0, ONE, x -> x.exchange(0, 0));
        done("M40110203040", "exchange(3,3)", 0, "M40110203040", x -> x.exchange(3, 3));
        done("M40110203040", "exchange(0,3)", 1, "M40140203010", x -> x.exchange(0, 3));
        done("M40110203040", "exchange(3,1)", 1, "M40110403020", x -> x.exchange(3, 1));
    }

    private static void exchangeAnswers() {
        CHECKS.sentence("P11", "Returns the number of beats in which their cells differ, as they are written.");
        String all = "M216" + "30".repeat(16);
        done(all + "-".repeat(16), "in all beats", 16, "M216" + "-".repeat(16) + "30".repeat(16),
                x -> x.exchange(0, 1));
        done(all + "30".repeat(15) + "-", "in the last beat", 1, "M216" + "30".repeat(15) + "-" + "30".repeat(16),
                x -> x.exchange(0, 1));
        done(all + "30".repeat(16), "in no beat", 0, all + "30".repeat(16), x -> x.exchange(1, 0));
        done("M20230=40=", "two holds are written alike", 1, "M20240=30=", x -> x.exchange(0, 1));
        done("M20230=3030", "a hold and a note of its pitch are not", 1, "M202303030=", x -> x.exchange(0, 1));
    }

    private static void exchangeOuterStaves() {
        CHECKS.sentence("P11", "Exchanges two staves: the melody and the bass, too");
        HandSpans x = Scores.of("M301402840");
        CHECKS.due("the inner note is an octave below", 2, x.note(1, 0, 1));
        CHECKS.due("exchange(0,1)", 1, x.exchange(0, 1));
        CHECKS.due("now it is like the bass", 1, x.note(1, 0, 1));
    }

    // ---- promise 12

    private static void staves() {
        CHECKS.sentence("P12", "Throws IllegalStateException if there would be 5 staves, or none");
        CHECKS.refusedIn("M40110203040", "staff(true)", STATE, x -> x.staff(true));
        CHECKS.refusedIn(FULL_SCORE, "staff(true)", STATE, x -> x.staff(true));
        CHECKS.refusedIn(ONE, "staff(false)", STATE, x -> x.staff(false));
        CHECKS.refusedIn("M116" + "30".repeat(16), "staff(false)", STATE, x -> x.staff(false));
        CHECKS.sentence("P12", "Adds a staff of rests behind the last one ... or removes the last one. ... "
                + "Returns the number of staves then.");
        done("M10110", "staff(true)", 2, "M20110-", x -> x.staff(true));
        done("M2011020", "staff(true)", 3, "M3011020-", x -> x.staff(true));
        done("M301102030", "staff(true)", 4, "M401102030-", x -> x.staff(true));
        done("M40110203040", "staff(false)", 3, "M301102030", x -> x.staff(false));
        done("M301102030", "staff(false)", 2, "M2011020", x -> x.staff(false));
        done("M2011020", "staff(false)", 1, "M10110", x -> x.staff(false));
        done(FULL_SCORE, "staff(false)", 3, "M316" + "60".repeat(48), x -> x.staff(false));
        HandSpans again = Scores.of(FULL_SCORE);
        again.staff(false);
        again.staff(true);
        CHECKS.due("the removed staff is forgotten", "M416" + "60".repeat(48) + "-".repeat(16), Scores.music(again));
    }

    private static void bassAndInnerStaff() {
        CHECKS.sentence("P12", "it is the bass then, and the one before it, if it was the bass, an inner staff");
        HandSpans x = Scores.of("M10140");
        x.staff(true);
        CHECKS.due("the melody alone was no bass", 0, x.note(0, 0, 1));
        x.write(1, 0, 40);
        CHECKS.due("the new one is the bass", 0, x.note(1, 0, 1));
        x.staff(true);
        CHECKS.due("the melody stays the melody", 0, x.note(0, 0, 1));
        CHECKS.due("the bass is an inner staff", 1, x.note(1, 0, 1));
        x.write(2, 0, 40);
        CHECKS.due("the newer one is the bass", 0, x.note(2, 0, 1));
        x.staff(true);
        CHECKS.due("and an inner staff", 1, x.note(2, 0, 1));
        x.staff(false);
        CHECKS.due("the last one is the bass again", 0, x.note(2, 0, 1));
    }

    // ---- promise 13

    private static void insertPlaces() {
        CHECKS.sentence("P13", "b: its number, 0 to the number of beats. Returns the number of beats then.");
        done("M20210203040", "insertBeat(0)", 3,
                "M203-1020-3040", x -> x.insertBeat(0));
        done("M20210203040", "insertBeat(1)", 3, "M20310-2030-40", x -> x.insertBeat(1));
        done("M20210203040", "insertBeat(2)", 3, "M2031020-3040-", x -> x.insertBeat(2));
        done(ONE, "insertBeat(1)", 2, "M10230-", x -> x.insertBeat(1));
        CHECKS.sentence("P13", "Throws IndexOutOfBoundsException if b is out of range");
        for (int b : new int[] {-1, 3, 4, 16, LEAST, MOST}) {
            CHECKS.refusedIn("M20210203040", "insertBeat(" + b + ")", INDEX, x -> x.insertBeat(b));
        }
        CHECKS.refusedIn(ONE, "insertBeat(2)", INDEX, x -> x.insertBeat(2));
    }

    private static void insertIntoFullMusic() {
        CHECKS.sentence("P13", "Throws IllegalStateException if there are 16 beats");
        String fifteen = "M115" + "30".repeat(15);
        done(fifteen, "insertBeat(0)", 16, "M116-" + "30".repeat(15), x -> x.insertBeat(0));
        done(fifteen, "insertBeat(15)", 16, "M116" + "30".repeat(15) + "-", x -> x.insertBeat(15));
        CHECKS.refusedIn(fifteen, "insertBeat(16)", INDEX, x -> x.insertBeat(16));
        for (int i = 0; i <= 16; i++) {
            int b = i;
            CHECKS.refusedIn("M116" + "30".repeat(16), "insertBeat(" + b + ")", STATE, x -> x.insertBeat(b));
        }
        CHECKS.refusedIn(FULL_SCORE, "insertBeat(16)", STATE, x -> x.insertBeat(16));
        CHECKS.sentence("EXCEPTIONS", "If several exceptions apply to a call, the one that its description names "
                + "first is thrown: insertBeat");
        for (int b : new int[] {-1, 17, LEAST, MOST}) {
            CHECKS.refusedIn(FULL_SCORE, "insertBeat(" + b + ")", INDEX, x -> x.insertBeat(b));
        }
    }

    private static void insertedBeat() {
        CHECKS.sentence("P13", "Inserts a beat of rests.");
        String music = "M415" + "30".repeat(60);
        for (int b = 0; b <= 15; b++) {
            HandSpans x = Scores.of(music);
            x.insertBeat(b);
            String staff = "30".repeat(b) + "-" + "30".repeat(15 - b);
            CHECKS.due("insertBeat(" + b + ")", "M416" + staff.repeat(4), Scores.music(x));
        }
        HandSpans again = Scores.of("M20210203040");
        again.removeBeat(1);
        again.insertBeat(1);
        CHECKS.due("the removed beat is forgotten", "M20210-30-", Scores.music(again));
    }

    // ---- promise 14

    private static void removePlaces() {
        CHECKS.sentence("P14", "Throws IndexOutOfBoundsException if there is no such beat");
        for (int b : new int[] {-1, 2, 3, 16, LEAST, MOST}) {
            CHECKS.refusedIn("M20210203040", "removeBeat(" + b + ")", INDEX, x -> x.removeBeat(b));
        }
        CHECKS.refusedIn(FULL_SCORE, "removeBeat(16)", INDEX, x -> x.removeBeat(16));
        done("M20210203040", "removeBeat(0)", 1, "M2012040", x -> x.removeBeat(0));
        done("M20210203040", "removeBeat(1)", 1, "M2011030", x -> x.removeBeat(1));
        done(FULL_SCORE, "removeBeat(15)", 15, "M415" + "60".repeat(60), x -> x.removeBeat(15));
        done(FULL_SCORE, "removeBeat(0)", 15, "M415" + "60".repeat(60), x -> x.removeBeat(0));
    }

    private static void onlyBeat() {
        CHECKS.sentence("P14", "Throws IllegalStateException if it is the only one");
        CHECKS.refusedIn(ONE, "removeBeat(0)", STATE, x -> x.removeBeat(0));
        CHECKS.refusedIn("M40110203040", "removeBeat(0)", STATE, x -> x.removeBeat(0));
        CHECKS.refusedBy(HandSpans::new, "removeBeat(0)", STATE, x -> x.removeBeat(0));
        CHECKS.sentence("EXCEPTIONS", "If several exceptions apply to a call, the one that its description names "
                + "first is thrown: removeBeat");
        for (int b : new int[] {-1, 1, LEAST, MOST}) {
            CHECKS.refusedIn(ONE, "removeBeat(" + b + ")", INDEX, x -> x.removeBeat(b));
        }
    }

    private static void removedBeat() {
        CHECKS.sentence("P14", "Removes a beat; the ones behind it move up. ... Returns the number of beats then.");
        StringBuilder rising = new StringBuilder();
        for (int b = 0; b < 16; b++) {
            rising.append(10 + b);
        }
        for (int b = 0; b < 16; b++) {
            HandSpans x = Scores.of("M216" + rising + rising);
            String staff = rising.substring(0, 2 * b) + rising.substring(2 * b + 2);
            CHECKS.due("removeBeat(" + b + ")", 15, x.removeBeat(b));
            CHECKS.due("removeBeat(" + b + ")", "M215" + staff + staff, Scores.music(x));
        }
    }

    // ---- promise 15, actions and undo

    private static HandSpans acted(int actions) {
        HandSpans x = Scores.of("M10100");
        for (int v = 1; v <= actions; v++) {
            x.write(0, 0, v);
        }
        return x;
    }

    private static void undoCounts() {
        CHECKS.sentence("P15", "Takes back the last action that is remembered. Returns how many states are still "
                + "remembered.");
        for (int actions = 1; actions <= 14; actions++) {
            HandSpans x = acted(actions);
            for (int left = actions - 1; left >= 0; left--) {
                CHECKS.due("undo of " + actions, left, x.undo());
                CHECKS.due("the note before", left, x.cell(0, 0, false));
            }
            CHECKS.refused("undo once more", STATE, x::undo);
        }
    }

    private static void undoForgets() {
        CHECKS.sentence("ACTIONS AND UNDO", "At most 14 states are remembered; when one more is remembered, the "
                + "oldest one is forgotten.");
        for (int actions = 14; actions <= 45; actions++) {
            HandSpans x = acted(actions);
            for (int left = 13; left >= 0; left--) {
                CHECKS.due("undo of " + actions, left, x.undo());
                CHECKS.due("the note before", actions - 14 + left, x.cell(0, 0, false));
            }
            CHECKS.refused("undo once more", STATE, x::undo);
            CHECKS.due("the oldest note that is known", actions - 14, x.cell(0, 0, false));
        }
        HandSpans x = acted(20);
        x.undo();
        x.write(0, 0, 50);
        x.write(0, 0, 51);
        CHECKS.due("full again", 13, x.undo());
        CHECKS.due("the branch", 50, x.cell(0, 0, false));
        CHECKS.due("all the others", 13, Scores.undoAll(x));
        CHECKS.due("the oldest note that is known", 7, x.cell(0, 0, false));
    }

    private static void undoNothing() {
        CHECKS.sentence("P15", "Throws IllegalStateException if none is remembered");
        CHECKS.refusedBy(() -> Scores.of(SMALL), "undo", STATE, HandSpans::undo);
        CHECKS.refusedBy(HandSpans::new, "undo", STATE, HandSpans::undo);
        CHECKS.refusedBy(() -> usedBack(acted(1)), "undo", STATE, HandSpans::undo);
        CHECKS.refusedBy(() -> usedBack(acted(20)), "undo", STATE, HandSpans::undo);
        CHECKS.refusedBy(() -> usedBack(Scores.full(SMALL)), "undo", STATE, HandSpans::undo);
    }

    private static HandSpans usedBack(HandSpans x) {
        Scores.undoAll(x);
        return x;
    }

    private static void actionsWithoutEffect() {
        CHECKS.sentence("ACTIONS AND UNDO", "is an action, also if nothing becomes different");
        String music = "M20430=-3030=-30";
        done(music, "set", 12, music, x -> x.set(0, 12));
        done(music, "write, a note", 30, music, x -> x.write(0, 0, 30));
        done(music, "write, a hold", 99, music, x -> x.write(0, 1, 99));
        done(music, "write, a rest", NONE, music, x -> x.write(0, 2, -1));
        done(music, "transpose", 2, music, x -> x.transpose(0, 0));
        done(music, "exchange with itself", 0, music, x -> x.exchange(1, 1));
        done(music, "exchange with its like", 0, music, x -> x.exchange(0, 1));
        done("M202----", "transpose rests", 0, "M202----", x -> x.transpose(1, 7));
        done("M202----", "exchange rests", 0, "M202----", x -> x.exchange(1, 0));
        HandSpans x = acted(14);
        x.write(0, 0, 14);
        for (int left = 13; left >= 0; left--) {
            CHECKS.due("undo", left, x.undo());
        }
        CHECKS.due("it took the place of the oldest state", 1, x.cell(0, 0, false));
    }

    private static void actionsOfEachKind() {
        CHECKS.sentence("ACTIONS AND UNDO", "Before each action, the state is remembered: the music and the "
                + "settings");
        HandSpans x = Scores.of("M2023040--");
        String[] seen = new String[8];
        Checks.Deed[] deeds = {y -> y.set(2, 4), y -> y.write(0, 0, 31), y -> y.transpose(0, 3), y -> y.exchange(0, 1),
            y -> y.staff(true), y -> y.insertBeat(0), y -> y.removeBeat(1), y -> y.staff(false)};
        for (int i = 0; i < deeds.length; i++) {
            seen[i] = Scores.seen(x);
            deeds[i].on(x);
        }
        for (int i = deeds.length - 1; i >= 0; i--) {
            CHECKS.due("undo", i, x.undo());
            CHECKS.due("action " + i + " taken back", seen[i], Scores.seen(x));
        }
    }

    private static void undoneSettings() {
        CHECKS.sentence("ACTIONS AND UNDO", "the state, which consists of the music and the settings: each of them");
        int[] other = {3, 4, 2, 7, 0, 1};
        for (int what = 0; what < other.length; what++) {
            HandSpans x = Scores.of(SMALL);
            x.set(what, other[what]);
            String changed = Scores.seen(x);
            x.set(what, HIGH[what] - LOW[what] == 1 ? 1 - other[what] : HIGH[what]);
            x.undo();
            CHECKS.due("setting " + what + " taken back", changed, Scores.seen(x));
            x.undo();
            CHECKS.due("setting " + what + " as at first", SMALL + " 12 12 5 3 1 0", Scores.seen(x));
        }
    }

    private static void callsThatAreNoActions() {
        CHECKS.sentence("ACTIONS AND UNDO", "Each call of one of them ... is an action ... (undo is none): no "
                + "other call");
        HandSpans x = Scores.of("M20230404050");
        x.write(0, 0, 31);
        x.write(0, 0, 32);
        x.save(0);
        x.append('M');
        x.errorPosition();
        x.clearText();
        x.about(0);
        x.cell(0, 0, true);
        x.note(0, 0, 0);
        x.hand(0, 0, 0);
        x.beat(0, 0);
        x.whole(0);
        x.whatIf(0, 3, 0);
        x.smallestSpan();
        x.dearest();
        x.bestTransposition(0);
        x.runScript(1, 20033);
        x.simulate(5, 9);
        CHECKS.due("undo takes the write before them back", 1, x.undo());
        CHECKS.due("the note before", 31, x.cell(0, 0, false));
        CHECKS.due("undo takes no undo back", 0, x.undo());
        CHECKS.due("the first note", 30, x.cell(0, 0, false));
        x.write(0, 0, 33);
        x.restore(0);
        CHECKS.sentence("ACTIONS AND UNDO", "load and restore are not actions.");
        CHECKS.refused("undo behind restore", STATE, x::undo);
    }

    private static void notPartOfTheState() {
        CHECKS.sentence("ACTIONS AND UNDO", "The text and the save slots are not part of the state.");
        HandSpans x = Scores.of(ONE);
        x.write(0, 0, 31);
        x.append('-');
        x.save(0);
        CHECKS.due("undo", 0, x.undo());
        CHECKS.due("the text stays", 6, x.errorPosition());
        CHECKS.due("its length", 7, x.clearText());
        CHECKS.due("the slot stays filled", 1, x.restore(0));
        CHECKS.due("with what was saved", 31, x.cell(0, 0, false));
        x.write(0, 0, 32);
        x.undo();
        CHECKS.due("an empty text stays empty", 0, x.clearText());
        CHECKS.due("the slot stays", 1, x.restore(0));
    }

    private static void fiveHundredAndTwelveCalls() {
        CHECKS.sentence("What it is", "An object is used for at most 512 calls after it has been made");
        HandSpans acting = new HandSpans();
        for (int call = 1; call < 512; call++) {
            CHECKS.due("call " + call, call == 1 ? NONE : (call - 1) % 61, acting.write(0, 0, call % 61));
        }
        CHECKS.due("the last call", 13, acting.undo());
        HandSpans asked = Scores.of("M2022050-20");
        for (int call = 13; call < 512; call++) {
            CHECKS.due("call " + call, 30, asked.whole(0));
        }
        CHECKS.due("the last call", 0, asked.whatIf(5, 1, 0));
        HandSpans typed = new HandSpans();
        for (int call = 1; call < 512; call++) {
            boolean clear = call % 128 == 0;
            CHECKS.due("call " + call, clear ? 127 : call % 128, clear ? typed.clearText() : typed.append(call % 256));
        }
        CHECKS.due("the last call", 127, typed.clearText());
    }
}
