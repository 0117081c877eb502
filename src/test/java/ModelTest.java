import java.util.List;
import java.util.Random;

/** Runs of calls drawn from fixed seeds: HandSpans must answer as PlainModel does, call by call. */
public final class ModelTest {
    private static final int RUNS = 1500;
    /** What later calls of an object answer is free. */
    private static final int CALLS = 512;
    private static final Checks CHECKS = new Checks();

    private final Random draw;
    private final HandSpans made = new HandSpans();
    private final PlainModel model = new PlainModel();
    private final StringBuilder told = new StringBuilder();
    private int calls;

    private ModelTest(long seed) {
        draw = new Random(seed);
    }

    public static void main(String[] args) {
        for (int run = 0; run < RUNS; run++) {
            new ModelTest(run).play();
        }
        for (int run = 0; run < RUNS; run++) {
            new ModelTest(run).allWays();
        }
        CHECKS.close();
    }

    private void same(String call, Checks.Call one, Checks.Call other) {
        if (calls >= CALLS) {
            return;
        }
        calls++;
        told.append(call).append("; ");
        String got = Checks.outcome(one);
        String want = Checks.outcome(other);
        boolean equal = got.equals(want);
        CHECKS.that(equal ? "" : told + " " + got + ", due is: " + want, equal);
    }

    private int upTo(int most) {
        return draw.nextInt(most + 1);
    }

    private boolean oneIn(int n) {
        return draw.nextInt(n) == 0;
    }

    /** A number of the range as a rule; sometimes one near its ends or far away. */
    private int about(int least, int most) {
        if (oneIn(25)) {
            int[] odd = {least - 1, most + 1, Integer.MIN_VALUE, Integer.MAX_VALUE, -1, 99, 100, -9};
            return odd[draw.nextInt(odd.length)];
        }
        return least + draw.nextInt(most - least + 1);
    }

    private void play() {
        if (!oneIn(10)) {
            type(music(1 + upTo(3), 1 + upTo(15)));
            load();
        }
        settings();
        while (calls < CALLS) {
            if (oneIn(30)) {
                same("clearText()", made::clearText, model::clearText);
                type(music(1 + upTo(3), 1 + upTo(15)));
                load();
            }
            step();
            // Most of what goes wrong is seen in the sum; so it is asked for often.
            for (int what = 0; what <= 7; what++) {
                int of = what;
                same("whole(" + of + ")", () -> made.whole(of), () -> model.whole(of));
            }
        }
    }

    private String music(int staves, int beats) {
        StringBuilder text = new StringBuilder("M").append(staves).append(beats / 10).append(beats % 10);
        int width = 5 + upTo(55);
        int lowest = upTo(60 - width);
        int holds = upTo(9);
        for (int s = 0; s < staves; s++) {
            char before = '-';
            for (int b = 0; b < beats; b++) {
                int pitch = lowest + upTo(width);
                if (before != '-' && upTo(9) < holds) {
                    before = '=';
                    text.append('=');
                } else if (oneIn(6)) {
                    before = '-';
                    text.append('-');
                } else {
                    before = '0';
                    text.append(pitch / 10).append(pitch % 10);
                }
            }
        }
        if (oneIn(8)) {
            spoil(text);
        }
        return text.toString();
    }

    private void spoil(StringBuilder text) {
        char odd = "M0123456789-= m\n".charAt(upTo(15));
        int at = upTo(text.length() - 1);
        switch (upTo(3)) {
            case 0:
                text.setLength(at);
                break;
            case 1:
                text.append(odd);
                break;
            case 2:
                text.setCharAt(at, odd);
                break;
            default:
                text.insert(at, odd);
        }
    }

    private void type(String text) {
        for (int i = 0; i < text.length(); i++) {
            int c = text.charAt(i);
            same("append(" + c + ")", () -> made.append(c), () -> model.append(c));
        }
    }

    private void load() {
        same("errorPosition()", made::errorPosition, model::errorPosition);
        same("load()", made::load, model::load);
    }

    private void settings() {
        for (int what = 0; what < 6; what++) {
            if (oneIn(2)) {
                set(what);
            }
        }
    }

    private void set(int w) {
        int[] most = {24, 24, 5, 9, 1, 1};
        int v = about(w < 3 ? 1 : 0, w >= 0 && w < 6 ? most[w] : 9);
        same("set(" + w + "," + v + ")", () -> made.set(w, v), () -> model.set(w, v));
    }

    private void step() {
        int s = about(0, Math.max(0, model.about(6) - 1));
        int b = about(0, Math.max(0, model.about(7) - 1));
        int t = about(0, Math.max(0, model.about(6) - 1));
        switch (upTo(18)) {
            case 0:
                set(about(0, 5));
                break;
            case 1:
            case 2:
                int v = oneIn(3) ? 99 : oneIn(4) ? -1 : about(0, 60);
                same("write(" + s + "," + b + "," + v + ")", () -> made.write(s, b, v), () -> model.write(s, b, v));
                break;
            case 3:
                int by = oneIn(2) ? about(-60, 60) : about(-9, 9);
                same("transpose(" + s + "," + by + ")", () -> made.transpose(s, by), () -> model.transpose(s, by));
                break;
            case 4:
                same("exchange(" + s + "," + t + ")", () -> made.exchange(s, t), () -> model.exchange(s, t));
                break;
            case 5:
                boolean more = !oneIn(3);
                same("staff(" + more + ")", () -> made.staff(more), () -> model.staff(more));
                break;
            case 6:
                int place = about(0, model.about(7));
                same("insertBeat(" + place + ")", () -> made.insertBeat(place), () -> model.insertBeat(place));
                break;
            case 7:
                same("removeBeat(" + b + ")", () -> made.removeBeat(b), () -> model.removeBeat(b));
                break;
            case 8:
                for (int i = oneIn(8) ? 16 : 1; i > 0; i--) {
                    same("undo()", made::undo, model::undo);
                }
                break;
            case 9:
                int slot = about(0, 1);
                same("save(" + slot + ")", () -> made.save(slot), () -> model.save(slot));
                break;
            case 10:
                int from = about(0, 1);
                same("restore(" + from + ")", () -> made.restore(from), () -> model.restore(from));
                break;
            case 11:
                int reach = about(0, 5);
                int value = about(0, 24);
                int of = about(0, 7);
                same("whatIf(" + reach + "," + value + "," + of + ")",
                        () -> made.whatIf(reach, value, of), () -> model.whatIf(reach, value, of));
                break;
            case 12:
                same("smallestSpan()", made::smallestSpan, model::smallestSpan);
                same("dearest()", made::dearest, model::dearest);
                break;
            case 13:
                same("bestTransposition(" + s + ")", () -> made.bestTransposition(s), () -> model.bestTransposition(s));
                break;
            case 14:
            case 15:
                script();
                break;
            case 16:
                long seed = oneIn(2) ? draw.nextLong() : upTo(9);
                int m = about(1, 40);
                same("simulate(" + seed + "," + m + ")", () -> made.simulate(seed, m), () -> model.simulate(seed, m));
                break;
            default:
                look(s, b);
        }
    }

    private void look(int s, int b) {
        for (int i = -1; i <= 10; i++) {
            int what = i;
            same("about(" + what + ")", () -> made.about(what), () -> model.about(what));
        }
        same("cell(" + s + "," + b + ",false)", () -> made.cell(s, b, false), () -> model.cell(s, b, false));
        same("cell(" + s + "," + b + ",true)", () -> made.cell(s, b, true), () -> model.cell(s, b, true));
        int h = about(0, 1);
        for (int i = -1; i <= 5; i++) {
            int what = i;
            same("note(" + s + "," + b + "," + what + ")", () -> made.note(s, b, what), () -> model.note(s, b, what));
            same("hand(" + h + "," + b + "," + what + ")", () -> made.hand(h, b, what), () -> model.hand(h, b, what));
            same("beat(" + b + "," + what + ")", () -> made.beat(b, what), () -> model.beat(b, what));
        }
        same("whole(8)", () -> made.whole(8), () -> model.whole(8));
    }

    private void script() {
        int n = about(1, 3);
        long script = 0;
        for (int i = 0; i < Math.min(3, Math.max(1, n)); i++) {
            script = script * 100000 + command();
        }
        if (oneIn(30)) {
            long[] odd = {-1, Long.MIN_VALUE, Long.MAX_VALUE, 100000L, 10000000000L, 1000000000000000L, 0};
            script = odd[upTo(6)];
        }
        long all = script;
        same("runScript(" + n + "," + all + ")", () -> made.runScript(n, all), () -> model.runScript(n, all));
    }

    private int command() {
        if (oneIn(10)) {
            return draw.nextInt(100000);
        }
        int s = upTo(model.about(6) - (oneIn(12) ? 0 : 1));
        int b = upTo(Math.min(9, model.about(7) - (oneIn(12) ? 0 : 1)));
        int cell = 1000 * s + 100 * b;
        switch (1 + upTo(8)) {
            case 1:
                return 10000 + 1000 * upTo(6) + (oneIn(2) ? upTo(1) : upTo(26)) + (oneIn(20) ? 100 : 0);
            case 2:
                return 20000 + cell + (oneIn(10) ? upTo(99) : upTo(60));
            case 3:
                return 30000 + cell + (oneIn(10) ? upTo(99) : 0);
            case 4:
                return 40000 + cell + (oneIn(10) ? upTo(99) : 0);
            case 5:
                return 50000 + 100 * s + 10 * upTo(3) + (oneIn(10) ? 1 : 0) + (oneIn(10) ? 1000 : 0);
            case 6:
                return 60000 + 100 * upTo(model.about(7)) + (oneIn(10) ? upTo(99) : 0);
            case 7:
                int what = upTo(7);
                return 70000 + 1000 * what + Math.min(999, model.whole(what)) + (oneIn(6) ? 1 : 0);
            case 8:
                return 80000 + cell + upTo(1) + (oneIn(15) ? upTo(99) : 0);
            default:
                return 90000 + cell + (oneIn(2) ? 0 : upTo(4)) + (oneIn(15) ? upTo(99) : 0);
        }
    }

    /** In short music all ways can be tried: so the model's own best way is looked at, too. */
    private void allWays() {
        type(music(2 + upTo(2), 1 + upTo(4)));
        load();
        settings();
        same("set(5,1)", () -> made.set(5, 1), () -> model.set(5, 1));
        List<Integer> best = PlainModel.bestOfAllWays(model.present());
        for (int i = 0; i < best.size(); i++) {
            int b = i;
            same("beat(" + b + ",0) of all ways", () -> made.beat(b, 0), () -> best.get(b));
        }
    }
}
