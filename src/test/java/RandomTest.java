import java.util.ArrayList;
import java.util.List;
import java.util.Random;

/**
 * Random runs of calls, held against the model: each answer, a look behind each call, and at a run's end all that can be
 * seen. What an object answers behind its 512th call is free, so a run has no more of them.
 */
public final class RandomTest {
    private static final int[] EDGES = {-2, -1, 0, 1, 2, 3, 255, 256, 65535, 65536, Integer.MAX_VALUE, Integer.MIN_VALUE};

    private static final int MOST_CALLS = 512;
    /** The last look takes some 160 calls, a call and a glance at the most 20. */
    private static final int CALLS_AHEAD_OF_THE_LAST_LOOK = 290;

    private final Random random;
    private final DriverBook x = new DriverBook();
    private final Model m = new Model();
    private final List<String> told = new ArrayList<>();
    private final int[] answers = new int[40];
    private int calls = 0;

    private RandomTest(long seed) {
        random = new Random(seed);
    }

    public static void main(String[] args) {
        int runs = 9000;
        long wrong = 0;
        int[] walks = new int[5];
        for (long seed = 1; seed <= runs; seed++) {
            RandomTest test = new RandomTest(seed);
            if (!test.oneRun(seed % 3 == 0)) {
                System.out.println("seed " + seed + ":");
                test.told.forEach(System.out::println);
                wrong++;
                break;
            }
            for (int k = 0; k < 5; k++) {
                walks[k] += test.answers[k];
            }
        }
        System.out.println("RandomTest: " + (wrong == 0 ? runs + " runs are as due" : "a run is not as due")
                + "; walks that were well " + walks[0] + ", unwell by (1) to (4) " + walks[1] + " " + walks[2] + " "
                + walks[3] + " " + walks[4]);
        if (wrong != 0 || walks[0] == 0 || walks[1] == 0 || walks[2] == 0 || walks[3] == 0 || walks[4] == 0) {
            System.exit(1);
        }
    }

    private boolean oneRun(boolean wild) {
        if (random.nextInt(8) != 0 && !setUp()) {
            return false;
        }
        while (calls < CALLS_AHEAD_OF_THE_LAST_LOOK) {
            int which = random.nextInt(100);
            String before = m.whole();
            if (!call(which, wild && random.nextInt(4) == 0) || !refusalsChangeNothing(before) || !glance()) {
                return false;
            }
        }
        boolean well = seen();
        if (calls > MOST_CALLS) {
            told.add("    " + calls + " calls are too many");
            return false;
        }
        return well;
    }

    /** Of the model too: only a TIMEOUT of run() and a PLACE of play() leave what was done. */
    private boolean refusalsChangeNothing(String before) {
        String last = told.isEmpty() ? "" : told.get(told.size() - 1);
        boolean refused = last.contains(" -") && last.lastIndexOf(" -") == last.lastIndexOf(' ');
        if (!refused || last.startsWith("run") || last.startsWith("play") || answersMinusOneWhenDone(last)) {
            return true;
        }
        if (before.equals(m.whole())) {
            return true;
        }
        told.add("    changed something");
        return false;
    }

    /** handler() and done() answer -1 for "none" also when they were not refused. */
    private static boolean answersMinusOneWhenDone(String call) {
        return call.startsWith("handler") || call.startsWith("done");
    }

    /** A chip with fields of all kinds, two or three acts and handlers. */
    private boolean setUp() {
        int registers = random.nextInt(4) == 0 ? 1 + random.nextInt(8) : 3;
        boolean well = same("begin(" + registers + ")", x.begin(registers), m.begin(registers));
        for (int r = 0; r < registers; r++) {
            int low = random.nextInt(3);
            while (low < 14 && well && random.nextInt(7) != 0) {
                int width = 1 + random.nextInt(3);
                int kind = random.nextInt(7);
                int reset = kind == 4 || kind == 6 || random.nextBoolean() ? 0 : random.nextInt(1 << width);
                String s = "field(" + r + ", " + low + ", " + width + ", " + kind + ", " + reset + ")";
                well = same(s, x.field(r, low, width, kind, reset), m.field(r, low, width, kind, reset));
                low += width + random.nextInt(2);
            }
        }
        int acts = 2 + random.nextInt(3);
        for (int a = 0; a < acts && well; a++) {
            well = same("act()", x.act(), m.act());
            int steps = random.nextInt(6);
            for (int k = 0; k < steps && well; k++) {
                well = step(a, false);
            }
        }
        for (int f = 0; f < m.fields.size() && well; f++) {
            if (m.fields.get(f).kind() == 4 && random.nextBoolean()) {
                int ticks = 1 + random.nextInt(9);
                well = same("period(" + f + ", " + ticks + ")", x.period(f, ticks), m.period(f, ticks));
                int other = random.nextInt(m.fields.size());
                well = well && same("done(" + f + ", " + other + ")", x.done(f, other), m.done(f, other));
            }
            if (m.fields.get(f).kind() == 2 && random.nextInt(3) != 0) {
                int a = random.nextInt(acts);
                well = well && same("handler(" + f + ", " + a + ")", x.handler(f, a), m.handler(f, a));
                if (m.acts.get(a).size() < 12 && random.nextInt(4) != 0) {
                    int all = m.fields.get(f).max();
                    String s = "step(" + a + ", 0, " + f + ", " + all + ", 0)";
                    well = well && same(s, x.step(a, 0, f, all, 0), m.step(a, 0, f, all, 0));
                }
            }
        }
        return well;
    }

    private boolean same(String call, long got, long want) {
        calls++;
        told.add(call + " " + got);
        if (got != want) {
            told.add("    due is " + want);
            return false;
        }
        return true;
    }

    private int edge() {
        return EDGES[random.nextInt(EDGES.length)];
    }

    private int below(int n, boolean wild) {
        return wild && random.nextInt(3) == 0 ? edge() : random.nextInt(Math.max(1, n) + (random.nextInt(10) == 0 ? 1 : 0));
    }

    private int field(boolean wild) {
        return below(m.fields.size(), wild);
    }

    private int fieldOfKind(int kind, boolean wild) {
        for (int k = 0; k < 12 && !m.fields.isEmpty() && !wild; k++) {
            int f = random.nextInt(m.fields.size());
            if (m.fields.get(f).kind() == kind) {
                return f;
            }
        }
        return field(wild);
    }

    private int act(boolean wild) {
        return below(m.acts.size(), wild);
    }

    private int numberOf(int f, boolean wild) {
        boolean is = f >= 0 && f < m.fields.size();
        return below(is ? m.fields.get(f).max() + 1 : 4, wild);
    }

    private boolean step(int a, boolean wild) {
        int kind = below(4, wild);
        int f = kind == 3 && !wild ? -1 : field(wild);
        int v = kind == 3 ? below(10, wild) : kind == 2 && !wild ? 0 : numberOf(f, wild);
        int limit = kind == 1 ? below(7, wild) : wild ? edge() : 0;
        String s = "step(" + a + ", " + kind + ", " + f + ", " + v + ", " + limit + ")";
        return same(s, x.step(a, kind, f, v, limit), m.step(a, kind, f, v, limit));
    }

    private boolean call(int which, boolean wild) {
        if (which < 20) {
            return bookCall(which, wild);
        }
        if (which < 72) {
            return chipCall(which, wild);
        }
        return tapeCall(which, wild);
    }

    private boolean bookCall(int which, boolean wild) {
        if (which < 1) {
            int r = wild ? edge() : 1 + random.nextInt(8);
            return random.nextInt(6) != 0 || same("begin(" + r + ")", x.begin(r), m.begin(r));
        }
        if (which < 2) {
            int r = below(m.registers, wild), low = below(16, wild), width = 1 + below(8, wild), kind = below(7, wild);
            int reset = random.nextBoolean() ? 0 : below(4, wild);
            String s = "field(" + r + ", " + low + ", " + width + ", " + kind + ", " + reset + ")";
            return same(s, x.field(r, low, width, kind, reset), m.field(r, low, width, kind, reset));
        }
        if (which < 3) {
            int f = fieldOfKind(4, wild), ticks = below(10, wild), other = below(m.fields.size() + 1, wild) - 1;
            return same("period(" + f + ", " + ticks + ")", x.period(f, ticks), m.period(f, ticks))
                    && same("done(" + f + ", " + other + ")", x.done(f, other), m.done(f, other));
        }
        if (which < 6) {
            int kind = below(3, wild), f = field(wild), g = field(wild), v = below(kind == 2 ? 9 : 4, wild);
            return same("law(" + kind + ", " + f + ", " + g + ", " + v + ")", x.law(kind, f, g, v), m.law(kind, f, g, v));
        }
        if (which < 7) {
            return same("act()", x.act(), m.act());
        }
        if (which < 14) {
            return step(act(wild), wild);
        }
        if (which < 15) {
            int a = act(wild);
            return same("bare(" + a + ")", x.bare(a), m.bare(a));
        }
        if (which < 18) {
            int f = fieldOfKind(2, wild), a = below(m.acts.size() + 1, wild) - (random.nextInt(4) == 0 ? 1 : 0);
            return same("handler(" + f + ", " + a + ")", x.handler(f, a), m.handler(f, a));
        }
        int on = below(2, wild);
        return same("locks(" + on + ")", x.locks(on), m.locks(on));
    }

    private boolean chipCall(int which, boolean wild) {
        if (which < 21) {
            return same("power()", x.power(), m.power());
        }
        if (which < 34) {
            int f = fieldOfKind(1 + random.nextInt(3), wild), v = numberOf(f, wild);
            int tick = wild ? random.nextBoolean() ? edge() : 9998 + random.nextInt(3) : m.w.now + random.nextInt(12);
            return same("event(" + f + ", " + v + ", " + tick + ")", x.event(f, v, tick), m.event(f, v, tick));
        }
        if (which < 44) {
            int a = act(wild);
            return same("run(" + a + ")", x.run(a), m.run(a));
        }
        if (which < 48) {
            int r = below(m.registers, wild);
            return same("read(" + r + ")", x.read(r), m.read(r));
        }
        if (which < 56) {
            int r = below(m.registers, wild), number = wild ? edge() : random.nextInt(65536) & random.nextInt(65536);
            return same("write(" + r + ", " + number + ")", x.write(r, number), m.write(r, number));
        }
        if (which < 59) {
            int n = wild ? edge() : random.nextInt(random.nextInt(5) == 0 ? 53 : 5);
            return same("wait(" + n + ")", x.wait(n), m.waitFor(n));
        }
        return walk(wild);
    }

    private boolean walk(boolean wild) {
        int a = act(wild);
        int f = fieldOfKind(2, wild);
        int got = x.walk(a, f);
        if (got >= 0) {
            calls++;
            answers[got == 0 ? 0 : x.why(0)]++;
        }
        return same("walk(" + a + ", " + f + ")", got, m.walk(a, f));
    }

    private boolean tapeCall(int which, boolean wild) {
        int d = below(6, wild);
        if (which < 76) {
            int sort = random.nextBoolean() ? 3 : 1 + below(4, wild), n = wild ? edge() : random.nextInt(9) - (random.nextInt(9) == 0 ? 1 : 0);
            return same("tape(" + d + ", " + sort + ", " + n + ")", x.tape(d, sort, n), m.tape(d, sort, n));
        }
        if (which < 80) {
            return same("image(" + d + ")", x.image(d), m.image(d));
        }
        if (which < 84) {
            return same("back(" + d + ")", x.back(d), m.back(d));
        }
        if (which < 86) {
            return same("toss(" + d + ")", x.toss(d), m.toss(d));
        }
        if (which < 89) {
            int i = below(4, wild), n = below(5, wild);
            return same("play(" + d + ", " + i + ", " + n + ")", x.play(d, i, n), m.play(d, i, n));
        }
        if (which < 90) {
            return same("clear(" + d + ")", x.clear(d), m.clear(d));
        }
        if (which < 96) {
            int i = below(8, wild);
            long v = random.nextInt(3) == 0 ? random.nextLong() : random.nextInt(7);
            return same("put(" + d + ", " + i + ", " + v + ")", x.put(d, i, v), m.put(d, i, v));
        }
        int i = below(8, wild), e = below(6, wild), j = below(8, wild), n = below(8, wild);
        return same("copy(" + d + ", " + i + ", " + e + ", " + j + ", " + n + ")", x.copy(d, i, e, j, n), m.copy(d, i, e, j, n));
    }

    /** A part of what the calls which change nothing can show. */
    private boolean glance() {
        int f = random.nextInt(m.fields.size() + 2) - 1;
        switch (random.nextInt(8)) {
            case 0:
                return count(random.nextInt(9)) && count(random.nextInt(9)) && count(random.nextInt(11) - 1);
            case 1:
                return breaks(0) && breaks(1) && breaks(2) && breaks(random.nextInt(5) - 1);
            case 2:
                return why(0) && why(1) && why(random.nextInt(4) - 1) && sees("result()", x.result(), m.result());
            case 3:
                return shadow(random.nextInt(m.registers)) && shadow(random.nextInt(10) - 1);
            case 4:
                return seenCode(random.nextInt(8) - 1, random.nextInt(6));
            case 5:
                return seenTape(random.nextInt(8) - 1);
            default:
                return peek(f, 0) && peek(f, 1) && peek(f, 2) && peek(f, 3) && peek(f, random.nextInt(6) - 1);
        }
    }

    private boolean seen() {
        boolean well = sees("result()", x.result(), m.result());
        for (int what = -1; what <= 9; what++) {
            well = well && count(what);
        }
        for (int what = -1; what <= 3; what++) {
            well = well && breaks(what) && why(what);
        }
        for (int r = -1; r <= 8; r++) {
            well = well && shadow(r);
        }
        for (int f = 0; f < m.fields.size(); f++) {
            for (int what = 0; what < 4; what++) {
                well = well && peek(f, what);
            }
        }
        for (int d = 0; d < 6; d++) {
            well = well && seenTape(d);
        }
        return well;
    }

    private boolean sees(String call, long got, long want) {
        calls++;
        if (got == want) {
            return true;
        }
        told.add(call + " " + got);
        told.add("    due is " + want);
        return false;
    }

    private boolean count(int what) {
        return sees("count(" + what + ")", x.count(what), m.count(what));
    }

    private boolean breaks(int what) {
        return sees("breaks(" + what + ")", x.breaks(what), m.breaks(what));
    }

    private boolean why(int what) {
        return sees("why(" + what + ")", x.why(what), m.why(what));
    }

    private boolean shadow(int r) {
        return sees("shadow(" + r + ")", x.shadow(r), m.shadow(r));
    }

    private boolean peek(int f, int what) {
        return sees("peek(" + f + ", " + what + ")", x.peek(f, what), m.peek(f, what));
    }

    private boolean seenCode(int a, int b) {
        boolean well = sees("code(" + a + ")", x.code(a), m.code(a))
                && sees("same(" + a + ", " + b + ")", x.same(a, b), m.same(a, b));
        int i = random.nextInt(Math.max(0, m.code(a)) + 2) - 1;
        for (int what = -1; what <= 6; what++) {
            well = well && sees("op(" + a + ", " + i + ", " + what + ")", x.op(a, i, what), m.op(a, i, what));
        }
        return well;
    }

    private boolean seenTape(int d) {
        for (int k = 0; k < 3; k++) {
            int i = random.nextInt(11) - 1;
            calls++;
            String got = at(d, i, true);
            String want = at(d, i, false);
            if (!got.equals(want)) {
                told.add("at(" + d + ", " + i + ") " + got + ", due is " + want);
                return false;
            }
        }
        return true;
    }

    private String at(int d, int i, boolean book) {
        try {
            return Long.toString(book ? x.at(d, i) : m.at(d, i));
        } catch (IllegalArgumentException e) {
            return "argument";
        } catch (IllegalStateException e) {
            return "state";
        }
    }
}
