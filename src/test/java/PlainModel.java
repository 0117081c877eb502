import java.util.ArrayDeque;
import java.util.ArrayList;
import java.util.Deque;
import java.util.List;

/**
 * The document once more, in the plainest words: every split of a beat is tried with lists of notes, and whole
 * ways are kept as lists of splits. It shares no code with HandSpans, so that the two can be held against each other.
 */
final class PlainModel {
    static final int NONE = -9;
    private static final int HOLD = 99;
    private static final int[] LOW = {1, 1, 1, 0, 0, 0};
    private static final int[] HIGH = {24, 24, 5, 9, 1, 1};

    /** The music, by staves, and the settings. */
    static final class Score {
        List<List<Integer>> staves = new ArrayList<>();
        int[] settings = {12, 12, 5, 3, 1, 0};

        Score copy() {
            Score made = new Score();
            made.settings = settings.clone();
            for (List<Integer> staff : staves) {
                made.staves.add(new ArrayList<>(staff));
            }
            return made;
        }

        int beats() {
            return staves.get(0).size();
        }

        boolean has(int s, int b) {
            return s >= 0 && s < staves.size() && b >= 0 && b < beats();
        }

        int sound(int s, int b) {
            int v = staves.get(s).get(b);
            return v == HOLD ? sound(s, b - 1) : v;
        }

        void repair() {
            for (List<Integer> staff : staves) {
                for (int b = 0; b < staff.size(); b++) {
                    if (staff.get(b) == HOLD && (b == 0 || staff.get(b - 1) == NONE)) {
                        staff.set(b, NONE);
                    }
                }
            }
        }
    }

    static final class Note {
        int staff;
        int pitch;
        boolean hold;
        int reason;
        int hand = NONE;
        boolean cut;
    }

    /** A beat with its notes; the kept ones also in the order of the splits. */
    static final class Beat {
        List<Note> notes = new ArrayList<>();
        List<Note> order = new ArrayList<>();
        List<Integer> possible = new ArrayList<>();
        int split;

        Note of(int staff) {
            for (Note n : notes) {
                if (n.staff == staff) {
                    return n;
                }
            }
            return null;
        }

        List<Note> hand(int h, int k) {
            return h == 0 ? order.subList(0, k) : order.subList(k, order.size());
        }
    }

    private final StringBuilder text = new StringBuilder();
    private Score score = rests(1, 1);
    private final Deque<Score> remembered = new ArrayDeque<>();
    private final Score[] slots = new Score[2];

    static Score rests(int staves, int beats) {
        Score made = new Score();
        for (int s = 0; s < staves; s++) {
            List<Integer> staff = new ArrayList<>();
            for (int b = 0; b < beats; b++) {
                staff.add(NONE);
            }
            made.staves.add(staff);
        }
        return made;
    }

    private static void index(boolean fine) {
        if (!fine) {
            throw new IndexOutOfBoundsException();
        }
    }

    private static void argument(boolean fine) {
        if (!fine) {
            throw new IllegalArgumentException();
        }
    }

    private static void state(boolean fine) {
        if (!fine) {
            throw new IllegalStateException();
        }
    }

    // ---- the reduction

    static List<Beat> reduce(Score score) {
        List<Beat> beats = new ArrayList<>();
        for (int b = 0; b < score.beats(); b++) {
            beats.add(keep(score, b));
        }
        List<Integer> way = score.settings[5] == 0 ? stepByStep(score, beats) : bestWay(score, beats);
        for (int b = 0; b < beats.size(); b++) {
            beats.get(b).split = way.get(b);
            for (int h = 0; h < 2; h++) {
                for (Note n : beats.get(b).hand(h, way.get(b))) {
                    n.hand = h;
                }
            }
        }
        for (int b = 1; b < beats.size(); b++) {
            for (Note n : beats.get(b).order) {
                n.cut = n.hold && beats.get(b - 1).of(n.staff).hand != n.hand;
            }
        }
        return beats;
    }

    private static Beat keep(Score score, int b) {
        Beat beat = new Beat();
        int last = score.staves.size() - 1;
        List<Integer> rank = new ArrayList<>(List.of(0));
        if (last > 0) {
            rank.add(last);
        }
        for (int s = 1; s < last; s++) {
            rank.add(s);
        }
        for (int s : rank) {
            if (score.staves.get(s).get(b) != NONE) {
                Note n = new Note();
                n.staff = s;
                n.pitch = score.sound(s, b);
                n.hold = score.staves.get(s).get(b) == HOLD;
                boolean inner = s != 0 && s != last;
                boolean same = false;
                boolean octave = false;
                for (Note other : beat.notes) {
                    if (other.reason == 0) {
                        same |= other.pitch == n.pitch;
                        octave |= other.pitch != n.pitch && (other.pitch - n.pitch) % 12 == 0;
                    }
                }
                n.reason = !inner ? 0 : same ? 1 : octave && score.settings[4] == 1 ? 2 : 0;
                beat.notes.add(n);
            }
        }
        possible(score, beat);
        while (beat.possible.isEmpty()) {
            Note out = null;
            for (Note n : beat.notes) {
                if (n.reason == 0 && n.staff != 0 && n.staff != last && (out == null || n.staff > out.staff)) {
                    out = n;
                }
            }
            out.reason = 3;
            possible(score, beat);
        }
        return beat;
    }

    private static void possible(Score score, Beat beat) {
        beat.order.clear();
        for (Note n : beat.notes) {
            if (n.reason == 0) {
                beat.order.add(n);
            }
        }
        beat.order.sort((x, y) -> x.pitch != y.pitch ? x.pitch - y.pitch : y.staff - x.staff);
        beat.possible.clear();
        for (int k = 0; k <= beat.order.size(); k++) {
            if (plays(score, 0, beat.hand(0, k)) && plays(score, 1, beat.hand(1, k))) {
                beat.possible.add(k);
            }
        }
    }

    static int width(List<Note> notes) {
        return notes.isEmpty() ? 0 : notes.get(notes.size() - 1).pitch - notes.get(0).pitch;
    }

    private static boolean plays(Score score, int h, List<Note> notes) {
        boolean hold = false;
        for (Note n : notes) {
            hold |= n.hold;
        }
        boolean fingers = notes.size() <= score.settings[2];
        boolean flat = width(notes) <= score.settings[h];
        boolean rolled = !hold && width(notes) <= score.settings[h] + score.settings[3];
        return fingers && (flat || rolled);
    }

    static int move(Beat before, int from, Beat beat, int to, int h) {
        if (before == null || before.hand(h, from).isEmpty() || beat.hand(h, to).isEmpty()) {
            return 0;
        }
        return Math.abs(before.hand(h, from).get(0).pitch - beat.hand(h, to).get(0).pitch);
    }

    static int cuts(Beat before, int from, Beat beat, int to) {
        int cuts = 0;
        for (int h = 0; h < 2; h++) {
            for (Note n : beat.hand(h, to)) {
                if (n.hold && !before.hand(h, from).contains(before.of(n.staff))) {
                    cuts++;
                }
            }
        }
        return cuts;
    }

    static int rolled(Score score, Beat beat, int k) {
        int rolled = 0;
        for (int h = 0; h < 2; h++) {
            rolled += width(beat.hand(h, k)) > score.settings[h] ? 1 : 0;
        }
        return rolled;
    }

    static int costs(Score score, Beat before, int from, Beat beat, int to) {
        return 10 * cuts(before, from, beat, to) + 5 * rolled(score, beat, to)
                + move(before, from, beat, to, 0) + move(before, from, beat, to, 1);
    }

    private static List<Integer> stepByStep(Score score, List<Beat> beats) {
        List<Integer> way = new ArrayList<>();
        for (int b = 0; b < beats.size(); b++) {
            Beat before = b == 0 ? null : beats.get(b - 1);
            int from = b == 0 ? 0 : way.get(b - 1);
            int best = -1;
            for (int k : beats.get(b).possible) {
                if (best < 0 || costs(score, before, from, beats.get(b), k)
                        < costs(score, before, from, beats.get(b), best)) {
                    best = k;
                }
            }
            way.add(best);
        }
        return way;
    }

    /** A way through the first beats, and what it costs. */
    record Way(int costs, List<Integer> splits) {
        boolean isBetterThan(Way other) {
            if (other == null || costs != other.costs) {
                return other == null || costs < other.costs;
            }
            for (int b = 0; b < splits.size(); b++) {
                int difference = splits.get(b) - other.splits.get(b);
                if (difference != 0) {
                    return difference < 0;
                }
            }
            return false;
        }
    }

    /** Of all ways to the same split of a beat only the best can be part of the best way for the whole. */
    private static List<Integer> bestWay(Score score, List<Beat> beats) {
        List<Way> ways = new ArrayList<>(List.of(new Way(0, List.of())));
        for (int b = 0; b < beats.size(); b++) {
            List<Way> longer = new ArrayList<>();
            for (int k : beats.get(b).possible) {
                Way best = null;
                for (Way way : ways) {
                    Way next = longer(score, beats, way, k);
                    best = next.isBetterThan(best) ? next : best;
                }
                longer.add(best);
            }
            ways = longer;
        }
        return bestOf(ways).splits;
    }

    /** All ways there are; for short music, to hold bestWay against. */
    static List<Integer> bestOfAllWays(Score score) {
        List<Beat> beats = reduce(score);
        List<Way> ways = new ArrayList<>(List.of(new Way(0, List.of())));
        for (Beat beat : beats) {
            List<Way> longer = new ArrayList<>();
            for (Way way : ways) {
                for (int k : beat.possible) {
                    longer.add(longer(score, beats, way, k));
                }
            }
            ways = longer;
        }
        return bestOf(ways).splits;
    }

    private static Way longer(Score score, List<Beat> beats, Way way, int k) {
        int b = way.splits.size();
        Beat before = b == 0 ? null : beats.get(b - 1);
        int from = b == 0 ? 0 : way.splits.get(b - 1);
        List<Integer> splits = new ArrayList<>(way.splits);
        splits.add(k);
        return new Way(way.costs + costs(score, before, from, beats.get(b), k), splits);
    }

    private static Way bestOf(List<Way> ways) {
        Way best = null;
        for (Way way : ways) {
            best = way.isBetterThan(best) ? way : best;
        }
        return best;
    }

    static int wholeOf(Score score, int what) {
        List<Beat> beats = reduce(score);
        int sum = 0;
        for (int b = 0; b < beats.size(); b++) {
            Beat before = b == 0 ? null : beats.get(b - 1);
            int from = b == 0 ? 0 : before.split;
            Beat beat = beats.get(b);
            for (Note n : beat.notes) {
                sum += what >= 1 && what <= 3 && n.reason == what ? 1 : 0;
                sum += what == 4 && n.cut ? 1 : 0;
                sum += what == 7 && n.reason == 0 && (!n.hold || n.cut) ? 1 : 0;
            }
            sum += what == 0 ? costs(score, before, from, beat, beat.split) : 0;
            sum += what == 5 ? rolled(score, beat, beat.split) : 0;
            for (int h = 0; h < 2; h++) {
                sum += what == 6 ? move(before, from, beat, beat.split, h) : 0;
            }
        }
        return sum;
    }

    // ---- text

    int append(int c) {
        argument(c >= 0 && c <= 255);
        state(text.length() < 140);
        text.append((char) c);
        return text.length();
    }

    int clearText() {
        int before = text.length();
        text.setLength(0);
        return before;
    }

    /** The text is fine as far as some text that keeps the rules begins with it. */
    int errorPosition() {
        for (int end = 1; end <= text.length(); end++) {
            if (!isBeginning(text.substring(0, end))) {
                return end - 1;
            }
        }
        return read(text.toString()) == null ? text.length() : NONE;
    }

    private static boolean isBeginning(String start) {
        if (!"M".startsWith(start.substring(0, 1)) || start.length() > 1 && "1234".indexOf(start.charAt(1)) < 0) {
            return false;
        }
        if (start.length() < 4) {
            return start.length() < 3 || start.charAt(2) == '0' || start.charAt(2) == '1';
        }
        if (!start.substring(2, 4).matches("0[1-9]|1[0-6]")) {
            return false;
        }
        String rest = start.substring(4);
        if (rest.matches(".*[^0-9=-].*") || rest.indexOf('\n') >= 0 || rest.indexOf('\r') >= 0) {
            return false;
        }
        // Whatever is missing can be filled with rests, and half a pitch with a zero.
        for (String fill : new String[] {"", "0"}) {
            for (int rests = 0; rests <= 64; rests++) {
                if (read(start + fill + "-".repeat(rests)) != null) {
                    return true;
                }
            }
        }
        return false;
    }

    private static Score read(String text) {
        if (!text.matches("(?s)M[1-4](0[1-9]|1[0-6])(-|=|[0-5][0-9]|60)*")) {
            return null;
        }
        int beats = Integer.parseInt(text.substring(2, 4));
        Score made = rests(text.charAt(1) - '0', beats);
        int at = 4;
        int cell = 0;
        while (at < text.length()) {
            char c = text.charAt(at);
            int v = c == '-' ? NONE : c == '=' ? HOLD : Integer.parseInt(text.substring(at, at + 2));
            if (cell == beats * made.staves.size()) {
                return null;
            }
            List<Integer> staff = made.staves.get(cell / beats);
            int b = cell % beats;
            if (v == HOLD && (b == 0 || staff.get(b - 1) == NONE)) {
                return null;
            }
            staff.set(b, v);
            at += v >= 0 && v != HOLD ? 2 : 1;
            cell++;
        }
        return cell == beats * made.staves.size() ? made : null;
    }

    int load() {
        state(errorPosition() == NONE);
        score = read(text.toString());
        remembered.clear();
        slots[0] = null;
        slots[1] = null;
        return score.beats();
    }

    // ---- what there is

    int about(int what) {
        argument(what >= 0 && what <= 9);
        if (what < 6) {
            return score.settings[what];
        }
        int struck = 0;
        int holds = 0;
        for (List<Integer> staff : score.staves) {
            for (int v : staff) {
                struck += v != NONE && v != HOLD ? 1 : 0;
                holds += v == HOLD ? 1 : 0;
            }
        }
        return what == 6 ? score.staves.size() : what == 7 ? score.beats() : what == 8 ? struck : holds;
    }

    int cell(int s, int b, boolean pitch) {
        index(score.has(s, b));
        return pitch ? score.sound(s, b) : score.staves.get(s).get(b);
    }

    // ---- actions

    private void remember() {
        remembered.addLast(score.copy());
        if (remembered.size() > 14) {
            remembered.removeFirst();
        }
    }

    private static boolean isSetting(int what, int v) {
        return what >= 0 && what <= 5 && v >= LOW[what] && v <= HIGH[what];
    }

    private static boolean mayHold(Score score, int s, int b) {
        return b > 0 && score.staves.get(s).get(b - 1) != NONE;
    }

    int set(int what, int v) {
        argument(isSetting(what, v));
        remember();
        int before = score.settings[what];
        score.settings[what] = v;
        return before;
    }

    int write(int s, int b, int v) {
        index(score.has(s, b));
        argument(v >= -1 && v <= 60 || v == HOLD);
        state(v != HOLD || mayHold(score, s, b));
        remember();
        int before = score.staves.get(s).get(b);
        score.staves.get(s).set(b, v == -1 ? NONE : v);
        score.repair();
        return before;
    }

    private static Score transposed(Score score, int s, int by) {
        Score made = score.copy();
        List<Integer> staff = made.staves.get(s);
        for (int b = 0; b < staff.size(); b++) {
            int v = staff.get(b);
            if (v != NONE && v != HOLD) {
                if (v + by < 0 || v + by > 60) {
                    return null;
                }
                staff.set(b, v + by);
            }
        }
        return made;
    }

    int transpose(int s, int by) {
        index(score.has(s, 0));
        argument(by >= -60 && by <= 60);
        Score made = transposed(score, s, by);
        state(made != null);
        remember();
        score = made;
        int count = 0;
        for (int v : score.staves.get(s)) {
            count += v != NONE && v != HOLD ? 1 : 0;
        }
        return count;
    }

    int exchange(int a, int b) {
        index(score.has(a, 0) && score.has(b, 0));
        remember();
        int count = 0;
        for (int i = 0; i < score.beats(); i++) {
            count += score.staves.get(a).get(i).equals(score.staves.get(b).get(i)) ? 0 : 1;
        }
        java.util.Collections.swap(score.staves, a, b);
        return count;
    }

    int staff(boolean more) {
        state(more ? score.staves.size() < 4 : score.staves.size() > 1);
        remember();
        if (more) {
            score.staves.add(rests(1, score.beats()).staves.get(0));
        } else {
            score.staves.remove(score.staves.size() - 1);
        }
        return score.staves.size();
    }

    int insertBeat(int b) {
        index(b >= 0 && b <= score.beats());
        state(score.beats() < 16);
        remember();
        for (List<Integer> staff : score.staves) {
            staff.add(b, NONE);
        }
        score.repair();
        return score.beats();
    }

    private static void remove(Score score, int b) {
        for (List<Integer> staff : score.staves) {
            staff.remove(b);
        }
        score.repair();
    }

    int removeBeat(int b) {
        index(score.has(0, b));
        state(score.beats() > 1);
        remember();
        remove(score, b);
        return score.beats();
    }

    int undo() {
        state(!remembered.isEmpty());
        score = remembered.removeLast();
        return remembered.size();
    }

    // ---- asking

    int note(int s, int b, int what) {
        index(score.has(s, b));
        argument(what >= 0 && what <= 3);
        return noteOf(score, s, b, what);
    }

    private static int noteOf(Score score, int s, int b, int what) {
        Note n = reduce(score).get(b).of(s);
        if (n == null) {
            return NONE;
        }
        int struck = n.reason != 0 ? NONE : n.hold && !n.cut ? 0 : 1;
        return new int[] {n.hand, n.reason, struck, n.cut ? 1 : 0}[what];
    }

    int hand(int h, int b, int what) {
        index((h == 0 || h == 1) && score.has(0, b));
        argument(what >= 0 && what <= 4);
        List<Beat> beats = reduce(score);
        Beat beat = beats.get(b);
        Beat before = b == 0 ? null : beats.get(b - 1);
        List<Note> notes = beat.hand(h, beat.split);
        int rolled = width(notes) > score.settings[h] ? 1 : 0;
        int move = move(before, b == 0 ? 0 : before.split, beat, beat.split, h);
        int position = notes.isEmpty() ? NONE : notes.get(0).pitch;
        return new int[] {notes.size(), position, width(notes), rolled, move}[what];
    }

    int beat(int b, int what) {
        index(score.has(0, b));
        argument(what >= 0 && what <= 4);
        List<Beat> beats = reduce(score);
        Beat beat = beats.get(b);
        Beat before = b == 0 ? null : beats.get(b - 1);
        int set = 0;
        for (int k : beat.possible) {
            set += 1 << k;
        }
        int costs = costs(score, before, b == 0 ? 0 : before.split, beat, beat.split);
        return new int[] {beat.split, beat.possible.size(), costs, beat.order.size(), set}[what];
    }

    int whole(int what) {
        argument(what >= 0 && what <= 7);
        return wholeOf(score, what);
    }

    int whatIf(int what, int v, int of) {
        argument(isSetting(what, v) && of >= 0 && of <= 7);
        Score other = score.copy();
        other.settings[what] = v;
        return wholeOf(other, of);
    }

    int smallestSpan() {
        for (int span = 1; span <= 24; span++) {
            Score other = score.copy();
            other.settings[0] = span;
            other.settings[1] = span;
            if (wholeOf(other, 3) == 0) {
                return span;
            }
        }
        return NONE;
    }

    int dearest() {
        int best = NONE;
        int least = 0;
        for (int s = score.staves.size() - 1; s >= 0; s--) {
            Score other = score.copy();
            other.staves.set(s, rests(1, score.beats()).staves.get(0));
            int costs = wholeOf(other, 0);
            if (best == NONE || costs <= least) {
                best = s;
                least = costs;
            }
        }
        return best;
    }

    int bestTransposition(int s) {
        index(score.has(s, 0));
        int best = 0;
        int least = wholeOf(score, 0);
        for (int by = -60; by <= 60; by++) {
            Score other = transposed(score, s, by);
            if (other != null) {
                int costs = wholeOf(other, 0);
                boolean nearer = Math.abs(by) < Math.abs(best) || Math.abs(by) == Math.abs(best) && by > best;
                if (costs < least || costs == least && nearer) {
                    best = by;
                    least = costs;
                }
            }
        }
        return best;
    }

    // ---- scripts, simulations

    int runScript(int n, long script) {
        argument(n >= 1 && n <= 3 && script >= 0 && Long.toString(script).length() <= 5 * n);
        String digits = "0".repeat(5 * n - Long.toString(script).length()) + script;
        Score copy = score.copy();
        for (int i = 0; i < n; i++) {
            if (!obeys(copy, digits.substring(5 * i, 5 * i + 5))) {
                return i;
            }
        }
        return NONE;
    }

    private static boolean obeys(Score score, String group) {
        int[] d = new int[6];
        for (int i = 1; i <= 5; i++) {
            d[i] = group.charAt(i - 1) - '0';
        }
        int xy = 10 * d[4] + d[5];
        boolean there = score.has(d[2], d[3]);
        if (group.matches("1.0..") && isSetting(d[2], xy)) {
            score.settings[d[2]] = xy;
        } else if (group.matches("2....") && there && xy <= 60) {
            score.staves.get(d[2]).set(d[3], xy);
        } else if (group.matches("3..00") && there) {
            score.staves.get(d[2]).set(d[3], NONE);
        } else if (group.matches("4..00") && there && mayHold(score, d[2], d[3])) {
            score.staves.get(d[2]).set(d[3], HOLD);
        } else if (group.matches("50..0") && score.has(d[3], 0) && score.has(d[4], 0)) {
            java.util.Collections.swap(score.staves, d[3], d[4]);
        } else if (group.matches("6..00") && score.has(0, 10 * d[2] + d[3]) && score.beats() > 1) {
            remove(score, 10 * d[2] + d[3]);
        } else if (group.matches("7[0-7]...")) {
            return wholeOf(score, d[2]) == 100 * d[3] + xy;
        } else if (group.matches("8..0[01]")) {
            return there && noteOf(score, d[2], d[3], 0) == d[5];
        } else if (group.matches("9..0[0-3]")) {
            return there && noteOf(score, d[2], d[3], 1) == d[5];
        } else {
            return false;
        }
        score.repair();
        return true;
    }

    int simulate(long seed, int m) {
        argument(m >= 1 && m <= 40);
        Score copy = score.copy();
        long x = seed;
        for (int i = 0; i < m; i++) {
            x = x * 6364136223846793005L + 1442695040888963407L;
            int r = (int) (x >>> 33);
            int s = r % copy.staves.size();
            int b = r / 4 % copy.beats();
            int v = r / 64 % 64;
            if (v <= 61) {
                copy.staves.get(s).set(b, v == 61 ? NONE : v);
            } else if (mayHold(copy, s, b)) {
                copy.staves.get(s).set(b, HOLD);
            }
            copy.repair();
        }
        return wholeOf(copy, 0) + 1000 * (wholeOf(copy, 1) + wholeOf(copy, 2) + wholeOf(copy, 3));
    }

    // ---- save slots

    int save(int slot) {
        index(slot == 0 || slot == 1);
        slots[slot] = score.copy();
        return score.beats();
    }

    int restore(int slot) {
        index(slot == 0 || slot == 1);
        state(slots[slot] != null);
        score = slots[slot].copy();
        remembered.clear();
        return score.beats();
    }

    Score present() {
        return score.copy();
    }
}
