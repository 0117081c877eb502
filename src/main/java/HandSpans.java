/** Reductions of music in several staves for two hands. ../shared/DOC.md says what each method does. */
public final class HandSpans {
    public static final int NONE = -9;

    private static final int MOST_STAVES = 4;
    private static final int MOST_BEATS = 16;
    private static final int MOST_SIGNS = 140;
    private static final int MOST_REMEMBERED = 14;
    private static final int MOST_COMMANDS = 3;
    private static final int MOST_ROUNDS = 40;
    private static final int SLOTS = 2;

    private static final int REST = NONE;
    private static final int REST_TO_WRITE = -1;
    private static final int HOLD = 99;
    private static final int HIGHEST_PITCH = 60;
    private static final int WIDEST_TRANSPOSITION = 60;

    private static final int FINGERS = 2;
    private static final int REACH = 3;
    private static final int OCTAVE_RULE = 4;
    private static final int MODE = 5;
    private static final int SETTINGS = 6;
    private static final int WIDEST_SPAN = 24;
    private static final int[] SETTING_AT_FIRST = {12, 12, 5, 3, 1, 0};
    private static final int[] LEAST_SETTING = {1, 1, 1, 0, 0, 0};
    private static final int[] MOST_SETTING = {24, 24, 5, 9, 1, 1};

    // The hands; the setting of each one's span has the same number.
    private static final int LEFT = 0;
    private static final int RIGHT = 1;
    private static final int HANDS = 2;
    private static final int SPLITS = MOST_STAVES + 1;

    private static final int KEPT = 0;
    private static final int SAME_PITCH = 1;
    private static final int OCTAVES_APART = 2;
    private static final int UNPLAYABLE = 3;

    private static final int CUT_COSTS = 10;
    private static final int ROLL_COSTS = 5;
    // A beat costs 170 at most: four cut ties, two rolled hands, two moves of 60.
    private static final int ABOVE_ALL_COSTS = 1000000;

    // What the methods about(), note(), hand(), beat() and whole() can be asked for.
    private static final int ABOUT_STAVES = 6;
    private static final int ABOUT_BEATS = 7;
    private static final int ABOUT_STRUCK = 8;
    private static final int ABOUT_HOLDS = 9;
    private static final int NOTE_HAND = 0;
    private static final int NOTE_REASON = 1;
    private static final int NOTE_STRUCK = 2;
    private static final int NOTE_CUT = 3;
    private static final int HAND_NOTES = 0;
    private static final int HAND_POSITION = 1;
    private static final int HAND_WIDTH = 2;
    private static final int HAND_ROLLED = 3;
    private static final int HAND_MOVE = 4;
    private static final int BEAT_SPLIT = 0;
    private static final int BEAT_CHOICES = 1;
    private static final int BEAT_COSTS = 2;
    private static final int BEAT_KEPT = 3;
    private static final int BEAT_POSSIBLE = 4;
    // From 1 to 3, whole() is asked for a reason.
    private static final int WHOLE_COSTS = 0;
    private static final int WHOLE_CUTS = 4;
    private static final int WHOLE_ROLLED = 5;
    private static final int WHOLE_MOVES = 6;
    private static final int WHOLE_STRUCK = 7;

    // A group of five digits stays below it.
    private static final int GROUP = 100000;

    private final Text text = new Text();
    private final State now = new State();
    // Where something is tried out or read, so that no call makes an object.
    private final State trial = new State();
    private final Reduction reduction = new Reduction();
    private final History history = new History();
    private final State[] slots = new State[SLOTS];
    private final boolean[] filled = new boolean[SLOTS];

    public HandSpans() {
        for (int i = 0; i < SLOTS; i++) {
            slots[i] = new State();
        }
    }

    // ---- text

    public int append(int c) throws IllegalArgumentException, IllegalStateException {
        if (c < 0 || c > 255) {
            throw new IllegalArgumentException();
        }
        if (text.isFull()) {
            throw new IllegalStateException();
        }
        return text.add((char) c);
    }

    public int clearText() {
        return text.empty();
    }

    public int errorPosition() {
        return text.readInto(trial);
    }

    public int load() throws IllegalStateException {
        if (text.readInto(trial) != NONE) {
            throw new IllegalStateException();
        }
        trial.resetSettings();
        now.takeFrom(trial);
        history.forget();
        for (int i = 0; i < SLOTS; i++) {
            filled[i] = false;
        }
        return now.beats;
    }

    // ---- what there is

    public int about(int what) throws IllegalArgumentException {
        if (what >= 0 && what < SETTINGS) {
            return now.settingAt(what);
        }
        switch (what) {
            case ABOUT_STAVES:
                return now.staves;
            case ABOUT_BEATS:
                return now.beats;
            case ABOUT_STRUCK:
                return now.countStruck();
            case ABOUT_HOLDS:
                return now.countHolds();
            default:
                throw new IllegalArgumentException();
        }
    }

    public int cell(int s, int b, boolean pitch) throws IndexOutOfBoundsException {
        requireCell(s, b);
        return pitch ? now.sounding(s, b) : now.written(s, b);
    }

    // ---- actions

    public int set(int what, int v) throws IllegalArgumentException {
        if (!State.allowsSetting(what, v)) {
            throw new IllegalArgumentException();
        }
        history.remember(now);
        int before = now.settingAt(what);
        now.changeSetting(what, v);
        return before;
    }

    public int write(int s, int b, int v)
            throws IndexOutOfBoundsException, IllegalArgumentException, IllegalStateException {
        requireCell(s, b);
        if (v != REST_TO_WRITE && v != HOLD && !State.isPitch(v)) {
            throw new IllegalArgumentException();
        }
        if (v == HOLD && !now.allowsHold(s, b)) {
            throw new IllegalStateException();
        }
        history.remember(now);
        int before = now.written(s, b);
        now.put(s, b, v == REST_TO_WRITE ? REST : v);
        now.dropLooseHolds();
        return before;
    }

    public int transpose(int s, int by)
            throws IndexOutOfBoundsException, IllegalArgumentException, IllegalStateException {
        requireStaff(s);
        if (by < -WIDEST_TRANSPOSITION || by > WIDEST_TRANSPOSITION) {
            throw new IllegalArgumentException();
        }
        if (!now.allowsMoving(s, by)) {
            throw new IllegalStateException();
        }
        history.remember(now);
        return now.moveStaff(s, by);
    }

    public int exchange(int a, int b) throws IndexOutOfBoundsException {
        requireStaff(a);
        requireStaff(b);
        history.remember(now);
        return now.swapStaves(a, b);
    }

    public int staff(boolean more) throws IllegalStateException {
        if (more ? now.staves >= MOST_STAVES : now.staves <= 1) {
            throw new IllegalStateException();
        }
        history.remember(now);
        if (more) {
            now.addStaff();
        } else {
            now.dropStaff();
        }
        return now.staves;
    }

    public int insertBeat(int b) throws IndexOutOfBoundsException, IllegalStateException {
        if (b < 0 || b > now.beats) {
            throw new IndexOutOfBoundsException();
        }
        if (now.beats >= MOST_BEATS) {
            throw new IllegalStateException();
        }
        history.remember(now);
        now.openBeat(b);
        now.dropLooseHolds();
        return now.beats;
    }

    public int removeBeat(int b) throws IndexOutOfBoundsException, IllegalStateException {
        requireBeat(b);
        if (now.beats <= 1) {
            throw new IllegalStateException();
        }
        history.remember(now);
        now.closeBeat(b);
        now.dropLooseHolds();
        return now.beats;
    }

    public int undo() throws IllegalStateException {
        if (history.isEmpty()) {
            throw new IllegalStateException();
        }
        return history.takeBack(now);
    }

    // ---- the reduction

    public int note(int s, int b, int what) throws IndexOutOfBoundsException, IllegalArgumentException {
        requireCell(s, b);
        requireUpTo(NOTE_CUT, what);
        reduction.make(now);
        return reduction.numberOfNote(s, b, what);
    }

    public int hand(int h, int b, int what) throws IndexOutOfBoundsException, IllegalArgumentException {
        if (h < 0 || h >= HANDS) {
            throw new IndexOutOfBoundsException();
        }
        requireBeat(b);
        requireUpTo(HAND_MOVE, what);
        reduction.make(now);
        return reduction.numberOfHand(h, b, what);
    }

    public int beat(int b, int what) throws IndexOutOfBoundsException, IllegalArgumentException {
        requireBeat(b);
        requireUpTo(BEAT_POSSIBLE, what);
        reduction.make(now);
        return reduction.numberOfBeat(b, what);
    }

    public int whole(int what) throws IllegalArgumentException {
        requireUpTo(WHOLE_STRUCK, what);
        reduction.make(now);
        return reduction.numberOfWhole(what);
    }

    // ---- other settings, other music

    public int whatIf(int what, int v, int of) throws IllegalArgumentException {
        if (!State.allowsSetting(what, v)) {
            throw new IllegalArgumentException();
        }
        requireUpTo(WHOLE_STRUCK, of);
        trial.takeFrom(now);
        trial.changeSetting(what, v);
        return numberOfTrial(of);
    }

    public int smallestSpan() {
        trial.takeFrom(now);
        for (int span = 1; span <= WIDEST_SPAN; span++) {
            for (int h = 0; h < HANDS; h++) {
                trial.changeSetting(h, span);
            }
            if (numberOfTrial(UNPLAYABLE) == 0) {
                return span;
            }
        }
        return NONE;
    }

    public int dearest() {
        int best = 0;
        int least = ABOVE_ALL_COSTS;
        for (int s = 0; s < now.staves; s++) {
            trial.takeFrom(now);
            trial.silenceStaff(s);
            int costs = numberOfTrial(WHOLE_COSTS);
            if (costs < least) {
                least = costs;
                best = s;
            }
        }
        return best;
    }

    public int bestTransposition(int s) throws IndexOutOfBoundsException {
        requireStaff(s);
        int best = 0;
        int least = ABOVE_ALL_COSTS;
        for (int i = 0; i <= 2 * WIDEST_TRANSPOSITION; i++) {
            // 0, 1, -1, 2, -2 and so on: of equal sums, the first one found is the one to tell.
            int by = i % 2 == 1 ? (i + 1) / 2 : -(i / 2);
            if (now.allowsMoving(s, by)) {
                trial.takeFrom(now);
                trial.moveStaff(s, by);
                int costs = numberOfTrial(WHOLE_COSTS);
                if (costs < least) {
                    least = costs;
                    best = by;
                }
            }
        }
        return best;
    }

    // ---- scripts, simulations

    public int runScript(int n, long script) throws IllegalArgumentException {
        if (n < 1 || n > MOST_COMMANDS || script < 0 || groupFromEnd(script, n) != 0) {
            throw new IllegalArgumentException();
        }
        trial.takeFrom(now);
        for (int i = 0; i < n; i++) {
            reduction.make(trial);
            if (!succeeds((int) (groupFromEnd(script, n - 1 - i) % GROUP))) {
                return i;
            }
        }
        return NONE;
    }

    public int simulate(long seed, int m) throws IllegalArgumentException {
        if (m < 1 || m > MOST_ROUNDS) {
            throw new IllegalArgumentException();
        }
        trial.takeFrom(now);
        long x = seed;
        for (int round = 0; round < m; round++) {
            x = x * 6364136223846793005L + 1442695040888963407L;
            simulateRound((int) (x >>> 33));
        }
        reduction.make(trial);
        int leftOut = 0;
        for (int reason = SAME_PITCH; reason <= UNPLAYABLE; reason++) {
            leftOut += reduction.numberOfWhole(reason);
        }
        return reduction.numberOfWhole(WHOLE_COSTS) + 1000 * leftOut;
    }

    // ---- save slots

    public int save(int slot) throws IndexOutOfBoundsException {
        requireSlot(slot);
        slots[slot].takeFrom(now);
        filled[slot] = true;
        return now.beats;
    }

    public int restore(int slot) throws IndexOutOfBoundsException, IllegalStateException {
        requireSlot(slot);
        if (!filled[slot]) {
            throw new IllegalStateException();
        }
        now.takeFrom(slots[slot]);
        history.forget();
        return now.beats;
    }

    // ---- what the arguments must be

    private void requireStaff(int s) {
        if (!now.hasStaff(s)) {
            throw new IndexOutOfBoundsException();
        }
    }

    private void requireBeat(int b) {
        if (!now.hasBeat(b)) {
            throw new IndexOutOfBoundsException();
        }
    }

    private void requireCell(int s, int b) {
        requireStaff(s);
        requireBeat(b);
    }

    private static void requireSlot(int slot) {
        if (slot < 0 || slot >= SLOTS) {
            throw new IndexOutOfBoundsException();
        }
    }

    private static void requireUpTo(int last, int what) {
        if (what < 0 || what > last) {
            throw new IllegalArgumentException();
        }
    }

    // ---- the trial

    private int numberOfTrial(int what) {
        reduction.make(trial);
        return reduction.numberOfWhole(what);
    }

    private static long groupFromEnd(long script, int index) {
        long left = script;
        for (int i = 0; i < index; i++) {
            left /= GROUP;
        }
        return left;
    }

    /** Counts on a reduction that has been made of the trial. */
    private boolean succeeds(int group) {
        int d2 = group / 1000 % 10;
        int d3 = group / 100 % 10;
        int d4 = group / 10 % 10;
        int d5 = group % 10;
        int pair = group % 100;
        switch (group / 10000) {
            case 1:
                return d3 == 0 && triedSetting(d2, pair);
            case 2:
                // The pair 99 is no pitch here, though write() takes it for a hold.
                return State.isPitch(pair) && triedCell(d2, d3, pair);
            case 3:
                return pair == 0 && triedCell(d2, d3, REST);
            case 4:
                return pair == 0 && trial.allowsHold(d2, d3) && triedCell(d2, d3, HOLD);
            case 5:
                return d2 == 0 && d5 == 0 && triedExchange(d3, d4);
            case 6:
                return pair == 0 && triedRemoval(10 * d2 + d3);
            case 7:
                return d2 <= WHOLE_STRUCK && reduction.numberOfWhole(d2) == group % 1000;
            case 8:
                return d4 == 0 && trial.hasCell(d2, d3) && reduction.numberOfNote(d2, d3, NOTE_HAND) == d5;
            case 9:
                return d4 == 0 && trial.hasCell(d2, d3) && reduction.numberOfNote(d2, d3, NOTE_REASON) == d5;
            default:
                return false;
        }
    }

    private boolean triedSetting(int what, int v) {
        if (!State.allowsSetting(what, v)) {
            return false;
        }
        trial.changeSetting(what, v);
        return true;
    }

    private boolean triedCell(int s, int b, int v) {
        if (!trial.hasCell(s, b)) {
            return false;
        }
        trial.put(s, b, v);
        trial.dropLooseHolds();
        return true;
    }

    private boolean triedExchange(int a, int b) {
        if (!trial.hasStaff(a) || !trial.hasStaff(b)) {
            return false;
        }
        trial.swapStaves(a, b);
        return true;
    }

    private boolean triedRemoval(int b) {
        if (!trial.hasBeat(b) || trial.beats <= 1) {
            return false;
        }
        trial.closeBeat(b);
        trial.dropLooseHolds();
        return true;
    }

    private void simulateRound(int r) {
        if (trial.staves < 1 || trial.beats < 1) {
            return;
        }
        int s = r % trial.staves;
        int b = r / 4 % trial.beats;
        int v = r / 64 % 64;
        if (State.isPitch(v)) {
            triedCell(s, b, v);
        } else if (v == HIGHEST_PITCH + 1) {
            triedCell(s, b, REST);
        } else if (trial.allowsHold(s, b)) {
            triedCell(s, b, HOLD);
        }
    }

    /** The text buffer, and how music is read from it. */
    private static final class Text {
        private static final int FIRST_CELL = 4;
        private static final int NO_DIGIT = -1;
        private static final int NO_SIGN = -1;

        private final char[] signs = new char[MOST_SIGNS];
        private int length;
        private int at;

        boolean isFull() {
            return length >= MOST_SIGNS;
        }

        int add(char c) {
            if (!isFull()) {
                signs[length] = c;
                length++;
            }
            return length;
        }

        int empty() {
            int before = length;
            length = 0;
            return before;
        }

        /** Returns the error position; without an error, the music stands in the target. */
        int readInto(State target) {
            if (signAt(0) != 'M') {
                return 0;
            }
            int staves = digitAt(1);
            if (staves < 1 || staves > MOST_STAVES) {
                return 1;
            }
            int tens = digitAt(2);
            if (tens < 0 || tens > MOST_BEATS / 10) {
                return 2;
            }
            int ones = digitAt(3);
            int beats = 10 * tens + ones;
            if (ones == NO_DIGIT || beats < 1 || beats > MOST_BEATS) {
                return 3;
            }
            target.becomeRests(staves, beats);
            at = FIRST_CELL;
            for (int s = 0; s < staves; s++) {
                for (int b = 0; b < beats; b++) {
                    if (!readCell(target, s, b)) {
                        return at;
                    }
                }
            }
            return at == length ? NONE : at;
        }

        /** Moves behind the cell, or to the first sign that is not allowed. */
        private boolean readCell(State target, int s, int b) {
            int sign = signAt(at);
            if (sign == '-' || sign == '=' && target.allowsHold(s, b)) {
                target.put(s, b, sign == '-' ? REST : HOLD);
                at++;
                return true;
            }
            int tens = digitAt(at);
            if (tens < 0 || tens > HIGHEST_PITCH / 10) {
                return false;
            }
            at++;
            int ones = digitAt(at);
            int pitch = 10 * tens + ones;
            if (ones == NO_DIGIT || !State.isPitch(pitch)) {
                return false;
            }
            at++;
            target.put(s, b, pitch);
            return true;
        }

        // Behind the end stands a sign that no rule allows: so a text that ends too soon errs at its length.
        private int signAt(int index) {
            return index >= 0 && index < length ? signs[index] : NO_SIGN;
        }

        private int digitAt(int index) {
            int sign = signAt(index);
            return sign >= '0' && sign <= '9' ? sign - '0' : NO_DIGIT;
        }
    }

    /** The music and the settings. */
    private static final class State {
        private final int[] settings = new int[SETTINGS];
        private final int[] cells = new int[MOST_STAVES * MOST_BEATS];
        private int staves;
        private int beats;

        State() {
            becomeRests(1, 1);
            resetSettings();
        }

        void becomeRests(int newStaves, int newBeats) {
            staves = newStaves;
            beats = newBeats;
            for (int i = 0; i < cells.length; i++) {
                cells[i] = REST;
            }
        }

        void resetSettings() {
            for (int i = 0; i < SETTINGS; i++) {
                settings[i] = SETTING_AT_FIRST[i];
            }
        }

        void takeFrom(State other) {
            staves = other.staves;
            beats = other.beats;
            for (int i = 0; i < SETTINGS; i++) {
                settings[i] = other.settings[i];
            }
            for (int i = 0; i < cells.length; i++) {
                cells[i] = other.cells[i];
            }
        }

        static boolean isPitch(int v) {
            return v >= 0 && v <= HIGHEST_PITCH;
        }

        static boolean isSetting(int what) {
            return what >= 0 && what < SETTINGS;
        }

        static boolean allowsSetting(int what, int v) {
            return isSetting(what) && v >= LEAST_SETTING[what] && v <= MOST_SETTING[what];
        }

        boolean hasStaff(int s) {
            return s >= 0 && s < staves;
        }

        boolean hasBeat(int b) {
            return b >= 0 && b < beats;
        }

        boolean hasCell(int s, int b) {
            return hasStaff(s) && hasBeat(b);
        }

        boolean allowsHold(int s, int b) {
            return written(s, b - 1) != REST;
        }

        boolean allowsMoving(int s, int by) {
            for (int b = 0; b < beats; b++) {
                int v = written(s, b);
                if (isPitch(v) && !isPitch(v + by)) {
                    return false;
                }
            }
            return true;
        }

        int settingAt(int what) {
            return isSetting(what) ? settings[what] : 0;
        }

        /** Outside of the music there are rests: so beat 0 follows a rest. */
        int written(int s, int b) {
            return s >= 0 && s < staves && b >= 0 && b < beats ? cells[s * MOST_BEATS + b] : REST;
        }

        int sounding(int s, int b) {
            for (int i = b; i >= 0; i--) {
                int v = written(s, i);
                if (v != HOLD) {
                    return v;
                }
            }
            return REST;
        }

        int countStruck() {
            int count = 0;
            for (int s = 0; s < staves; s++) {
                count += countStruckOf(s);
            }
            return count;
        }

        int countStruckOf(int s) {
            int count = 0;
            for (int b = 0; b < beats; b++) {
                if (isPitch(written(s, b))) {
                    count++;
                }
            }
            return count;
        }

        int countHolds() {
            int count = 0;
            for (int s = 0; s < staves; s++) {
                for (int b = 0; b < beats; b++) {
                    if (written(s, b) == HOLD) {
                        count++;
                    }
                }
            }
            return count;
        }

        void changeSetting(int what, int v) {
            if (isSetting(what)) {
                settings[what] = v;
            }
        }

        void put(int s, int b, int v) {
            if (hasCell(s, b)) {
                cells[s * MOST_BEATS + b] = v;
            }
        }

        void silenceStaff(int s) {
            for (int b = 0; b < beats; b++) {
                put(s, b, REST);
            }
        }

        int moveStaff(int s, int by) {
            for (int b = 0; b < beats; b++) {
                int v = written(s, b);
                if (isPitch(v)) {
                    put(s, b, v + by);
                }
            }
            return countStruckOf(s);
        }

        int swapStaves(int one, int other) {
            int differing = 0;
            for (int b = 0; b < beats; b++) {
                int v = written(one, b);
                int w = written(other, b);
                if (v != w) {
                    differing++;
                    put(one, b, w);
                    put(other, b, v);
                }
            }
            return differing;
        }

        void addStaff() {
            if (staves < MOST_STAVES) {
                staves++;
                silenceStaff(staves - 1);
            }
        }

        void dropStaff() {
            if (staves > 1) {
                staves--;
            }
        }

        void openBeat(int at) {
            if (beats >= MOST_BEATS) {
                return;
            }
            beats++;
            for (int s = 0; s < staves; s++) {
                for (int b = beats - 1; b > at; b--) {
                    put(s, b, written(s, b - 1));
                }
                put(s, at, REST);
            }
        }

        void closeBeat(int at) {
            if (beats <= 1) {
                return;
            }
            for (int s = 0; s < staves; s++) {
                for (int b = at; b < beats - 1; b++) {
                    put(s, b, written(s, b + 1));
                }
            }
            beats--;
        }

        void dropLooseHolds() {
            for (int s = 0; s < staves; s++) {
                for (int b = 0; b < beats; b++) {
                    if (written(s, b) == HOLD && !allowsHold(s, b)) {
                        put(s, b, REST);
                    }
                }
            }
        }
    }

    /** The states that undo can take back, in a ring. */
    private static final class History {
        private final State[] ring = new State[MOST_REMEMBERED];
        private int next;
        private int count;

        History() {
            for (int i = 0; i < MOST_REMEMBERED; i++) {
                ring[i] = new State();
            }
        }

        boolean isEmpty() {
            return count == 0;
        }

        void forget() {
            count = 0;
        }

        void remember(State state) {
            ring[next].takeFrom(state);
            next = (next + 1) % MOST_REMEMBERED;
            if (count < MOST_REMEMBERED) {
                count++;
            }
        }

        int takeBack(State target) {
            if (count > 0) {
                next = (next + MOST_REMEMBERED - 1) % MOST_REMEMBERED;
                target.takeFrom(ring[next]);
                count--;
            }
            return count;
        }
    }

    /** The notes of one beat: which are kept, and how the two hands can share them. Bit sets hold staves and splits. */
    private static final class Chord {
        private final int[] spans = new int[HANDS];
        private int fingers;
        private int reach;
        private boolean octaveRule;

        private final int[] pitches = new int[MOST_STAVES];
        private final int[] reasons = new int[MOST_STAVES];
        private int held;
        private int keptHolds;

        // The staves of the kept notes, in the order in which the splits count them.
        private final int[] rising = new int[MOST_STAVES];
        private int size;
        private int possible;
        private final int[] leftStaves = new int[SPLITS];
        private final int[][] positions = new int[HANDS][SPLITS];
        private final int[][] widths = new int[HANDS][SPLITS];

        Chord() {
            for (int h = 0; h < HANDS; h++) {
                for (int k = 0; k < SPLITS; k++) {
                    positions[h][k] = NONE;
                }
            }
        }

        void read(State state, int b) {
            readSettings(state);
            readNotes(state, b);
            int bass = state.staves - 1;
            for (int s = 1; s < bass; s++) {
                if (reasons[s] == KEPT) {
                    reasons[s] = reasonFor(s, bass);
                }
            }
            share();
            for (int s = bass - 1; s >= 1 && possible == 0; s--) {
                if (reasons[s] == KEPT) {
                    reasons[s] = UNPLAYABLE;
                    share();
                }
            }
        }

        private void readSettings(State state) {
            for (int h = 0; h < HANDS; h++) {
                spans[h] = state.settingAt(h);
            }
            fingers = state.settingAt(FINGERS);
            reach = state.settingAt(REACH);
            octaveRule = state.settingAt(OCTAVE_RULE) == 1;
        }

        private void readNotes(State state, int b) {
            held = 0;
            for (int s = 0; s < MOST_STAVES; s++) {
                pitches[s] = state.sounding(s, b);
                reasons[s] = pitches[s] == REST ? NONE : KEPT;
                if (state.written(s, b) == HOLD) {
                    held |= 1 << s;
                }
            }
        }

        private int reasonFor(int inner, int bass) {
            int reason = KEPT;
            for (int s = 0; s < MOST_STAVES; s++) {
                if ((s < inner || s == bass) && reasons[s] == KEPT) {
                    int apart = Math.abs(pitches[inner] - pitches[s]);
                    if (apart == 0) {
                        return SAME_PITCH;
                    }
                    if (octaveRule && apart % 12 == 0) {
                        reason = OCTAVES_APART;
                    }
                }
            }
            return reason;
        }

        private void share() {
            size = 0;
            // Downwards, so that of equal pitches the greater staff comes first.
            for (int s = MOST_STAVES - 1; s >= 0; s--) {
                if (reasons[s] == KEPT) {
                    insert(s);
                }
            }
            for (int k = 0; k < size; k++) {
                leftStaves[k + 1] = leftStaves[k] | 1 << rising[k];
            }
            keptHolds = held & leftStaves[size];
            possible = 0;
            for (int k = 0; k <= size; k++) {
                measure(LEFT, k, 0, k);
                measure(RIGHT, k, k, size);
                if (canPlay(LEFT, k) && canPlay(RIGHT, k)) {
                    possible |= 1 << k;
                }
            }
        }

        private void insert(int s) {
            int place = size;
            while (place > 0 && pitches[rising[place - 1]] > pitches[s]) {
                rising[place] = rising[place - 1];
                place--;
            }
            rising[place] = s;
            size++;
        }

        private void measure(int h, int k, int first, int end) {
            if (first < end) {
                positions[h][k] = pitches[rising[first]];
                widths[h][k] = pitches[rising[end - 1]] - pitches[rising[first]];
            } else {
                positions[h][k] = NONE;
                widths[h][k] = 0;
            }
        }

        private boolean canPlay(int h, int k) {
            if (countOf(h, k) > fingers) {
                return false;
            }
            int most = (stavesOf(h, k) & held) == 0 ? spans[h] + reach : spans[h];
            return widths[h][k] <= most;
        }

        boolean isPossible(int k) {
            return (possible >> k & 1) == 1;
        }

        int stavesOf(int h, int k) {
            return h == LEFT ? leftStaves[k] : leftStaves[size] & ~leftStaves[k];
        }

        int countOf(int h, int k) {
            return h == LEFT ? k : size - k;
        }

        boolean isRolled(int h, int k) {
            return widths[h][k] > spans[h];
        }

        int countRolled(int k) {
            return (isRolled(LEFT, k) ? 1 : 0) + (isRolled(RIGHT, k) ? 1 : 0);
        }

        int move(int h, int k, Chord before, int splitBefore) {
            int from = before.positions[h][splitBefore];
            int to = positions[h][k];
            if (from == NONE || to == NONE) {
                return 0;
            }
            return to > from ? to - from : from - to;
        }

        int cutStaves(int k, Chord before, int splitBefore) {
            int keptBefore = before.leftStaves[before.size];
            int otherHand = leftStaves[k] ^ before.leftStaves[splitBefore];
            return keptHolds & (~keptBefore | otherHand);
        }

        int costs(int k, Chord before, int splitBefore) {
            return CUT_COSTS * Integer.bitCount(cutStaves(k, before, splitBefore))
                    + ROLL_COSTS * countRolled(k)
                    + move(LEFT, k, before, splitBefore)
                    + move(RIGHT, k, before, splitBefore);
        }

        int countLeftOut(int reason) {
            int count = 0;
            for (int s = 0; s < MOST_STAVES; s++) {
                if (reasons[s] == reason) {
                    count++;
                }
            }
            return count;
        }
    }

    /** The chords of the music, and the splits that are chosen for them. */
    private static final class Reduction {
        private final Chord[] chords = new Chord[MOST_BEATS];
        // Stands where there is no beat: a chord without notes, from which no hand moves.
        private final Chord silence = new Chord();
        private final int[] splits = new int[MOST_BEATS];
        // For each beat and split, the smallest sum of the costs of all later beats; used in mode 1.
        private final int[][] ahead = new int[MOST_BEATS][SPLITS];
        private int beats;

        Reduction() {
            for (int b = 0; b < MOST_BEATS; b++) {
                chords[b] = new Chord();
            }
        }

        void make(State state) {
            beats = state.beats;
            for (int b = 0; b < beats; b++) {
                chords[b].read(state, b);
            }
            lookAhead(state.settingAt(MODE) == 1);
            for (int b = 0; b < beats; b++) {
                splits[b] = bestSplit(b, chordAt(b - 1), splitAt(b - 1));
            }
        }

        private void lookAhead(boolean forTheWhole) {
            // Where nothing ahead counts, the best way for the whole is the one beat by beat: one choice serves both.
            for (int b = beats - 1; b >= 0; b--) {
                Chord chord = chordAt(b);
                for (int k = 0; k < SPLITS; k++) {
                    ahead[b][k] = 0;
                    if (forTheWhole && b < beats - 1 && chord.isPossible(k)) {
                        int best = bestSplit(b + 1, chord, k);
                        ahead[b][k] = chordAt(b + 1).costs(best, chord, k) + ahead[b + 1][best];
                    }
                }
            }
        }

        private int bestSplit(int b, Chord before, int splitBefore) {
            Chord chord = chordAt(b);
            int best = 0;
            int least = ABOVE_ALL_COSTS;
            for (int k = 0; k < SPLITS; k++) {
                if (chord.isPossible(k)) {
                    int costs = chord.costs(k, before, splitBefore) + ahead[b][k];
                    if (costs < least) {
                        least = costs;
                        best = k;
                    }
                }
            }
            return best;
        }

        private Chord chordAt(int b) {
            return b >= 0 && b < beats ? chords[b] : silence;
        }

        private int splitAt(int b) {
            return b >= 0 && b < beats ? splits[b] : 0;
        }

        private int cutStaves(int b) {
            return chordAt(b).cutStaves(splitAt(b), chordAt(b - 1), splitAt(b - 1));
        }

        private int move(int h, int b) {
            return chordAt(b).move(h, splitAt(b), chordAt(b - 1), splitAt(b - 1));
        }

        private int costs(int b) {
            return chordAt(b).costs(splitAt(b), chordAt(b - 1), splitAt(b - 1));
        }

        int numberOfNote(int s, int b, int what) {
            Chord chord = chordAt(b);
            int reason = chord.reasons[s];
            if (reason == NONE || what == NOTE_REASON) {
                return reason;
            }
            boolean cut = (cutStaves(b) >> s & 1) == 1;
            if (what == NOTE_CUT) {
                return cut ? 1 : 0;
            }
            if (reason != KEPT) {
                return NONE;
            }
            if (what == NOTE_STRUCK) {
                boolean isHold = (chord.held >> s & 1) == 1;
                return isHold && !cut ? 0 : 1;
            }
            return (chord.stavesOf(LEFT, splitAt(b)) >> s & 1) == 1 ? LEFT : RIGHT;
        }

        int numberOfHand(int h, int b, int what) {
            Chord chord = chordAt(b);
            int k = splitAt(b);
            switch (what) {
                case HAND_NOTES:
                    return chord.countOf(h, k);
                case HAND_POSITION:
                    return chord.positions[h][k];
                case HAND_WIDTH:
                    return chord.widths[h][k];
                case HAND_ROLLED:
                    return chord.isRolled(h, k) ? 1 : 0;
                default:
                    return move(h, b);
            }
        }

        int numberOfBeat(int b, int what) {
            Chord chord = chordAt(b);
            switch (what) {
                case BEAT_SPLIT:
                    return splitAt(b);
                case BEAT_CHOICES:
                    return Integer.bitCount(chord.possible);
                case BEAT_COSTS:
                    return costs(b);
                case BEAT_KEPT:
                    return chord.size;
                default:
                    return chord.possible;
            }
        }

        int numberOfWhole(int what) {
            int sum = 0;
            for (int b = 0; b < beats; b++) {
                sum += shareOfBeat(b, what);
            }
            return sum;
        }

        private int shareOfBeat(int b, int what) {
            Chord chord = chordAt(b);
            switch (what) {
                case WHOLE_COSTS:
                    return costs(b);
                case WHOLE_CUTS:
                    return Integer.bitCount(cutStaves(b));
                case WHOLE_ROLLED:
                    return chord.countRolled(splitAt(b));
                case WHOLE_MOVES:
                    return move(LEFT, b) + move(RIGHT, b);
                case WHOLE_STRUCK:
                    return chord.size - Integer.bitCount(chord.keptHolds & ~cutStaves(b));
                default:
                    return chord.countLeftOut(what);
            }
        }
    }
}
