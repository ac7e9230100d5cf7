/** Promises 1 to 14: a method for each, which goes through the promise's words from the first to the last. */
public final class BookPromisesTest {
    private static final int NONE = -1, OVERLAP = -2, FULL = -3, KIND = -4;
    private static final int MIN = Integer.MIN_VALUE, MAX = Integer.MAX_VALUE;
    private static final Due due = new Due();

    public static void main(String[] args) {
        promise1ANewObject();
        promise2Begin();
        promise3Field();
        promise3FieldRefused();
        promise3FieldOverlap();
        promise4Period();
        promise5Done();
        promise6Law();
        promise7Act();
        promise8Step();
        promise8StepRefused();
        promise9Bare();
        promise10Handler();
        promise11Locks();
        promise12Code();
        promise13Op();
        promise14Same();
        due.end("BookPromisesTest");
    }

    /** "As told in I to V." */
    private static void promise1ANewObject() {
        DriverBook x = new DriverBook();
        counts("new", x, 4, 0, 0, 0, 0, 0, 0, 1, 0);
        for (int r = 0; r < 4; r++) {
            due.is("a SHADOW", x.shadow(r), 0);
        }
        due.is("R is 4", x.shadow(4), NONE);
        due.is("RESULT", x.result(), 0);
        due.is("BREAKS", x.breaks(0), 0);
        due.is("no first LAW", x.breaks(1), NONE);
        due.is("no first NOW", x.breaks(2), NONE);
        due.is("no WALK", x.why(0), NONE);
        due.is("no FIELD", x.peek(0, 0), NONE);
        due.is("no ACT", x.code(0), NONE);
        for (int d = 0; d < 6; d++) {
            due.atThrows("a TAPE holds no row", x, d, 0, 2);
            due.is("it holds nothing", x.clear(d), 0);
        }
        due.atThrows("there are six", x, 6, 0, 1);
        for (int r = 0; r < 4; r++) {
            due.is("no FIELDS, no bits", x.read(r), 0);
        }
        due.is("NOW", x.count(4), 4);
        DriverBook other = new DriverBook();
        other.begin(8);
        other.field(7, 0, 1, Due.PLAIN, 1);
        other.act();
        other.locks(0);
        other.tape(0, 1, 1);
        counts("another object has its own", x, 4, 0, 0, 0, 4, 0, 0, 1, 0);
        due.is("and its own TAPES", x.clear(0), 0);
    }

    private static void counts(String what, DriverBook x, int... want) {
        for (int k = 0; k < want.length; k++) {
            due.is(what + ": count(" + k + ")", x.count(k), want[k]);
        }
    }

    /** "No FIELDS, LAWS, ACTS, HANDLERS; LOCKS on; POWER (TAPES stay): the REGISTERS. NONE: not 1 .. 8." */
    private static void promise2Begin() {
        DriverBook x = Scenes.rich();
        int[] before = new int[9];
        for (int what = 0; what < 9; what++) {
            before[what] = x.count(what);
        }
        for (int registers : new int[] {0, 9, -1, MIN, MAX}) {
            due.is(Due.call("begin", registers), x.begin(registers), NONE);
        }
        counts("refused", x, before);
        due.is("the REGISTERS", x.begin(6), 6);
        counts("begun", x, 6, 0, 0, 0, 0, 0, 0, 1, 0);
        due.is("the last one", x.shadow(5), 0);
        due.is("none behind it", x.shadow(6), NONE);
        for (int r = 0; r < 6; r++) {
            due.is("POWER: a SHADOW", x.shadow(r), 0);
        }
        due.is("POWER: RESULT", x.result(), 0);
        due.is("POWER: no BREAKS", x.breaks(0), 0);
        due.is("POWER: no first LAW", x.breaks(1), NONE);
        due.is("no WALK since", x.why(0), NONE);
        due.is("no FIELDS", x.peek(0, 0), NONE);
        due.is("no ACTS", x.run(0), NONE);
        for (int d = 1; d <= 4; d++) {
            due.is("TAPES stay", x.at(d, 1), d == 3 ? 1 : 10 * d + 1);
        }
        due.is("no bits are taken", x.field(1, 9, 2, Due.PULSE, 0), 0);
        due.is("its PERIOD", x.period(0, 1), 3);
        due.is("its DONE field", x.done(0, -1), -1);
        due.is("no HANDLERS", x.field(0, 4, 2, Due.FLAG, 1) + x.handler(1, -1), 0);
        due.is("no LAWS", x.law(0, 0, 0, 0), 0);
        due.is("an ACT", x.act(), 0);
        due.is("without STEPS", x.bare(0), 0);
        due.is("an IMAGE stays too", x.clear(5), 5);
        for (int registers = 1; registers <= 8; registers++) {
            due.is(Due.call("begin", registers), x.begin(registers), registers);
            due.is("REGISTERS", x.count(0), registers);
        }
    }

    /** "A FIELD is told, POWER: its number." */
    private static void promise3Field() {
        for (int kind = 0; kind <= 6; kind++) {
            DriverBook x = Scenes.rich();
            int reset = kind == Due.PULSE || kind == Due.LOAD ? 0 : 2;
            due.is("its number", x.field(4, 3, 2, kind, reset), 11);
            due.is("FIELDS", x.count(1), 12);
            due.is("its value", x.peek(11, 0), reset);
            due.is("its PENDING", x.peek(11, 1), kind == Due.HELD ? reset : KIND);
            due.is("its TIMER", x.peek(11, 2), kind == Due.PULSE ? 0 : KIND);
            due.is("its SOFT", x.peek(11, 3), kind == Due.TAKEN ? 0 : KIND);
            boolean kept = kind == Due.PLAIN || kind == Due.HELD;
            due.is("its bits in the SHADOW", x.shadow(4), kept ? 2 << 3 : 0);
            due.is("its bits in a READ", x.read(4), reset << 3);
            x.power();
            due.is("its RESET", x.peek(11, 0), reset);
            due.is("LAWS, ACTS and LOCKS stay", 100 * x.count(2) + 10 * x.count(3) + x.count(7), 340);
            due.is("a HANDLER stays", x.handler(7, 0), 0);
        }
        DriverBook y = Scenes.rich();
        // one that changes no SHADOW of the scene's
        y.field(4, 0, 8, Due.STATUS, 255);
        Scenes.powered(due, "field", y);
    }

    /**
     * "NONE: no such REGISTER, KIND; low below 0, width not 1 .. 8, low + width above 16; the RESET isn't a number of that
     * width, or isn't 0 for a PULSE or LOAD; OVERLAP; FULL: 24."
     */
    private static void promise3FieldRefused() {
        DriverBook x = new DriverBook();
        int[][] none = {
            {-1, 0, 1, 0, 0}, {4, 0, 1, 0, 0}, {MAX, 0, 1, 0, 0}, {0, 0, 1, -1, 0}, {0, 0, 1, 7, 0}, {0, -1, 1, 0, 0},
            {0, MIN, 8, 0, 0}, {0, 0, 0, 0, 0}, {0, 0, 9, 0, 0}, {0, 0, MIN, 0, 0}, {0, 16, 1, 0, 0}, {0, 9, 8, 0, 0},
            {0, MAX, 8, 0, 0}, {0, 0, 1, 0, 2}, {0, 0, 8, 0, 256}, {0, 0, 8, 0, -1}, {0, 0, 2, 4, 1}, {0, 0, 2, 6, 1},
        };
        for (int turn = 0; turn < 3; turn++) {
            // the first turn on an empty book, then with bits that are shared, then with 24 FIELDS besides
            for (int[] a : none) {
                due.is(Due.call("field", a[0], a[1], a[2], a[3], a[4]), x.field(a[0], a[1], a[2], a[3], a[4]), NONE);
            }
            due.is("none was told", x.count(1), turn == 0 ? 0 : turn == 1 ? 2 : 24);
            if (turn == 0) {
                due.is("the lower half", x.field(0, 0, 8, Due.PLAIN, 255), 0);
                due.is("the upper half", x.field(0, 8, 8, Due.PLAIN, 255), 1);
                due.is("OVERLAP", x.field(0, 7, 2, Due.STATUS, 0), OVERLAP);
            } else if (turn == 1) {
                for (int k = 2; k < 24; k++) {
                    due.is("numbered as told", x.field(1 + k / 16, k % 16, 1, Due.PLAIN, 1), k);
                }
            }
        }
        due.is("OVERLAP ahead of FULL", x.field(0, 0, 1, Due.PLAIN, 0), OVERLAP);
        x.wait(3);
        due.is("FULL", x.field(3, 0, 1, Due.PLAIN, 0), FULL);
        due.is("no POWER", x.count(4), 3);
        due.is("24", x.count(1), 24);
    }

    /** "No two FIELDS share a bit." */
    private static void promise3FieldOverlap() {
        for (int width = 1; width <= 8; width++) {
            for (int low = 0; low + width <= 16; low++) {
                DriverBook x = new DriverBook();
                x.field(1, 5, 4, Due.PLAIN, 0);
                boolean shares = low <= 8 && low + width > 5;
                due.is(Due.call("field", 1, low, width, 0, 0), x.field(1, low, width, Due.PLAIN, 0), shares ? OVERLAP : 1);
                due.is("FIELDS", x.count(1), shares ? 1 : 2);
                due.is("in another REGISTER", x.field(2, low, width, Due.PLAIN, 0), shares ? 1 : 2);
            }
        }
    }

    /** "The PERIOD of a PULSE, POWER: the one it had. NONE: no such FIELD, not 1 .. 9; KIND: it is no PULSE." */
    private static void promise4Period() {
        DriverBook x = Scenes.rich();
        int now = x.count(4);
        for (int[] a : new int[][] {{-1, 1}, {11, 1}, {MAX, 1}, {5, 0}, {5, 10}, {5, MIN}, {0, 0}, {0, 10}}) {
            due.is(Due.call("period", a[0], a[1]), x.period(a[0], a[1]), NONE);
        }
        for (int f : new int[] {0, 1, 2, 3, 4, 6}) {
            due.is("no PULSE", x.period(f, 1), KIND);
        }
        due.is("no POWER", x.count(4), now);
        due.is("the one it had", x.period(5, 2), 9);
        Scenes.powered(due, "period", x);
        for (int ticks = 1; ticks <= 9; ticks++) {
            x.period(5, ticks);
            x.write(1, 3 << 9);
            x.wait(ticks - 2 > 0 ? ticks - 2 : 0);
            due.is("up to its last TICK", x.peek(5, 0), ticks == 1 ? 0 : 3);
            x.wait(1);
            due.is("behind it", x.peek(5, 0), 0);
            due.is("the one it had", x.period(5, 5), ticks);
        }
        due.is("another PULSE has its own", x.period(10, 3), 3);
        due.is("its DONE field stays", x.done(5, 7), 7);
    }

    /**
     * "The DONE field of a PULSE (-1: none), POWER: the one it had (-1: none). NONE: no such FIELD (either); KIND: the first
     * is no PULSE, or the second neither STATUS nor FLAG."
     */
    private static void promise5Done() {
        DriverBook x = Scenes.rich();
        int now = x.count(4);
        for (int[] a : new int[][] {{-1, 6}, {11, 6}, {MIN, -1}, {5, 11}, {5, -2}, {5, MAX}, {0, 11}, {11, 0}}) {
            due.is(Due.call("done", a[0], a[1]), x.done(a[0], a[1]), NONE);
        }
        for (int f : new int[] {0, 1, 2, 3, 4, 6}) {
            due.is("the first is no PULSE", x.done(f, 6), KIND);
            due.is("the first is no PULSE", x.done(f, -1), KIND);
        }
        for (int f : new int[] {0, 2, 3, 4, 5, 10}) {
            due.is("the second is neither", x.done(5, f), KIND);
        }
        due.is("no POWER", x.count(4), now);
        due.is("the one it had", x.done(5, 6), 7);
        Scenes.powered(due, "done", x);
        x.write(1, 1 << 9);
        x.wait(8);
        due.is("all bits of the STATUS", x.peek(6, 0), 7);
        due.is("a FLAG now", x.done(5, 1), 6);
        x.write(1, 1 << 9);
        x.wait(8);
        due.is("all bits of the FLAG", x.peek(1, 0), 3);
        due.is("not of the STATUS", x.peek(6, 0), 0);
        due.is("none now", x.done(5, -1), 1);
        x.write(1, 1 << 9);
        x.wait(8);
        due.is("none", x.peek(1, 0) + x.peek(6, 0), 0);
        due.is("it had none", x.done(5, -1), -1);
        due.is("another PULSE has its own", x.done(10, -1), 6);
        due.is("its PERIOD stays", x.period(5, 9), 9);
    }

    /** "A LAW is told: its number. NONE: no such KIND (0 .. 2), FIELDS; v is not 0 .. 255; FULL: 12." */
    private static void promise6Law() {
        DriverBook x = new DriverBook();
        x.field(0, 0, 8, Due.PLAIN, 0);
        x.field(1, 0, 8, Due.STATUS, 255);
        x.write(0, 1);
        due.is("its number", x.law(0, 0, 1, 255), 0);
        due.is("its number", x.law(1, 0, 1, 0), 1);
        due.is("its number", x.law(2, 0, 0, 255), 2);
        due.is("no POWER", x.count(4), 1);
        due.is("no BREAKS by what was", x.breaks(0), 0);
        x.write(0, 2);
        due.is("each is broken; a HIT of before it was told counts", x.breaks(0), 3);
        int[][] none = {
            {-1, 0, 0, 0}, {3, 0, 0, 0}, {MIN, 0, 0, 0}, {0, -1, 0, 0}, {0, 2, 0, 0}, {0, 0, -1, 0}, {0, 0, 2, 0},
            {0, MAX, 0, 0}, {0, 0, MIN, 0}, {0, 0, 0, -1}, {1, 0, 0, 256}, {2, 0, 0, MAX},
        };
        for (int full = 0; full < 2; full++) {
            for (int[] a : none) {
                due.is(Due.call("law", a[0], a[1], a[2], a[3]), x.law(a[0], a[1], a[2], a[3]), NONE);
            }
            for (int k = x.count(2); k < 12; k++) {
                due.is("numbered as told", x.law(0, 1, 0, k), k);
            }
        }
        due.is("FULL", x.law(0, 0, 0, 0), FULL);
        due.is("12", x.count(2), 12);
        due.is("nothing was written", x.breaks(0), 3);
    }

    /** "A new ACT without STEPS: its number. FULL: 6." */
    private static void promise7Act() {
        DriverBook x = new DriverBook();
        x.wait(2);
        for (int a = 0; a < 6; a++) {
            due.is("no such ACT yet", x.bare(a), NONE);
            due.is("its number", x.act(), a);
            due.is("ACTS", x.count(3), a + 1);
            due.is("without STEPS", x.bare(a), 0);
            due.is("so without CODE", x.code(a), 0);
            x.step(a, Due.PAUSE, -1, 1 + a, 0);
        }
        due.is("FULL", x.act(), FULL);
        due.is("6", x.count(3), 6);
        for (int a = 0; a < 6; a++) {
            due.is("the others' STEPS stay", x.run(a), 1 + a);
        }
        due.is("no POWER", x.count(4), 2 + 21);
    }

    /** "An ACT gets a STEP at its end: how many it has." */
    private static void promise8Step() {
        DriverBook x = Scenes.kinds();
        x.act();
        x.wait(1);
        int[][] steps = {
            {Due.SET, 0, 3, 0}, {Due.AWAIT, 1, 2, 20}, {Due.GET, 3, 0, 0}, {Due.PAUSE, -1, 9, 0}, {Due.SET, 2, 3, 0},
            {Due.AWAIT, 6, 0, 0}, {Due.GET, 6, 0, 0}, {Due.PAUSE, -1, 1, 0}, {Due.SET, 4, 3, 0}, {Due.SET, 5, 0, 0},
            {Due.SET, 6, 1, 0}, {Due.GET, 0, 0, 0},
        };
        for (int k = 0; k < 12; k++) {
            due.is("how many it has", x.step(0, steps[k][0], steps[k][1], steps[k][2], steps[k][3]), k + 1);
        }
        // by SHADOW, for a TAKEN and a HELD field are there: a WRITE, a POLL, a READ and PICK, a PAUSE and so on, in order
        int[] which = {1, 2, 0, 4, 3, 1, 2, 0, 4, 3, 1, 0, 4};
        due.is("each at the end", x.code(0), which.length);
        for (int i = 0; i < which.length; i++) {
            due.is("INSTRUCTION " + i, x.op(0, i, 0), which[i]);
        }
        due.is("FULL: 12", x.step(0, Due.PAUSE, -1, 1, 0), FULL);
        due.is("12", x.bare(0), 12);
        due.is("the other ACT has none", x.bare(1), 0);
        due.is("no POWER", x.count(4), 1);
    }

    /**
     * "NONE: no such ACT, kind, FIELD (-1 for PAUSE); v is not a number of the FIELD's width (SET, AWAIT), not 0 (GET), not
     * 1 .. 9 (PAUSE); limit is not 0 .. 20 (AWAIT), not 0 (others); KIND: SET of STATUS or TAKEN, AWAIT of TAKEN; FULL: 12."
     */
    private static void promise8StepRefused() {
        DriverBook x = Scenes.kinds();
        int[][] none = {
            {1, 0, 0, 0, 0}, {-1, 0, 0, 0, 0}, {MAX, 3, -1, 1, 0}, {0, -1, 0, 0, 0}, {0, 4, -1, 1, 0}, {0, 0, 7, 0, 0},
            {0, 0, -1, 0, 0}, {0, 1, -1, 0, 0}, {0, 2, -1, 0, 0}, {0, 1, 7, 0, 0}, {0, 2, 7, 0, 0}, {0, 3, 0, 1, 0},
            {0, 3, -2, 1, 0}, {0, 0, 0, 4, 0}, {0, 0, 0, -1, 0}, {0, 1, 0, 4, 0}, {0, 1, 0, -1, 0}, {0, 2, 0, 1, 0},
            {0, 2, 0, -1, 0}, {0, 3, -1, 0, 0}, {0, 3, -1, 10, 0}, {0, 1, 0, 0, 21}, {0, 1, 0, 0, -1}, {0, 0, 0, 0, 1},
            {0, 0, 0, 0, -1}, {0, 2, 0, 0, 1}, {0, 2, 0, 0, -1}, {0, 3, -1, 1, 1}, {0, 3, -1, 1, -1},
            // the KIND is wrong too
            {0, 0, 1, 4, 0}, {0, 0, 3, 0, 1}, {0, 1, 3, 4, 0}, {0, 1, 3, 0, 21},
        };
        for (int full = 0; full < 2; full++) {
            for (int[] a : none) {
                due.is(Due.call("step", a[0], a[1], a[2], a[3], a[4]), x.step(a[0], a[1], a[2], a[3], a[4]), NONE);
            }
            due.is("SET of STATUS", x.step(0, Due.SET, 1, 3, 0), KIND);
            due.is("SET of TAKEN", x.step(0, Due.SET, 3, 3, 0), KIND);
            due.is("AWAIT of TAKEN", x.step(0, Due.AWAIT, 3, 3, 20), KIND);
            for (int k = 0; k < 12 && full == 0; k++) {
                due.is("none was told", x.step(0, Due.GET, 3, 0, 0), k + 1);
            }
        }
        due.is("FULL", x.step(0, Due.SET, 0, 0, 0), FULL);
        due.is("12", x.bare(0), 12);
    }

    /** "An ACT loses its STEPS: how many it had. NONE: there is none." */
    private static void promise9Bare() {
        DriverBook x = Scenes.kinds();
        x.act();
        for (int k = 1; k <= 12; k++) {
            x.step(0, Due.PAUSE, -1, 1, 0);
        }
        x.step(1, Due.PAUSE, -1, 2, 0);
        due.is("none", x.bare(-1), NONE);
        due.is("none", x.bare(2), NONE);
        due.is("none", x.bare(MAX), NONE);
        due.is("refused, it stays", x.run(0), 12);
        due.is("how many it had", x.bare(0), 12);
        due.is("it lost them", x.code(0), 0);
        due.is("it had none", x.bare(0), 0);
        due.is("it RUNS by nothing", x.run(0), 0);
        due.is("the other keeps its own", x.run(1), 2);
        due.is("it is still there", x.count(3), 2);
        due.is("no POWER", x.count(4), 14);
        due.is("it gets STEPS again", x.step(0, Due.PAUSE, -1, 3, 0), 1);
        due.is("that alone", x.run(0), 3);
    }

    /** "A FLAG gets an ACT as its HANDLER (-1: none): the one it had (-1: none). NONE: no such FIELD, ACT; KIND: it is no FLAG." */
    private static void promise10Handler() {
        DriverBook x = Scenes.kinds();
        x.act();
        x.step(0, Due.SET, 2, 3, 0);
        x.field(1, 0, 1, Due.FLAG, 0);
        x.event(2, 1, 1);
        x.wait(1);
        for (int[] a : new int[][] {{-1, 0}, {8, 0}, {MIN, -1}, {2, 2}, {2, -2}, {2, MAX}, {0, 2}, {8, -1}}) {
            due.is(Due.call("handler", a[0], a[1]), x.handler(a[0], a[1]), NONE);
        }
        for (int f : new int[] {0, 1, 3, 4, 5, 6}) {
            due.is("no FLAG", x.handler(f, 0), KIND);
            due.is("no FLAG", x.handler(f, -1), KIND);
        }
        due.is("no HANDLER yet", x.run(1) + x.count(5), 0);
        due.is("it had none", x.handler(2, 0), -1);
        due.is("no POWER", x.peek(2, 0), 1);
        due.is("its CODE runs", x.run(1), 1);
        due.is("SERVED", x.count(5), 1);
        due.is("the one it had", x.handler(2, 1), 0);
        due.is("the one it had", x.handler(2, -1), 1);
        due.is("it had none", x.handler(2, -1), -1);
        x.event(2, 1, 3);
        x.wait(1);
        due.is("no HANDLER runs", x.run(1) + x.count(5), 1);
        due.is("another FLAG has its own", x.handler(7, 0), -1);
        due.is("so FLAG 2 has none", x.handler(2, 1), -1);
        due.is("both may have one", x.handler(7, 1), 0);
        due.is("the first keeps it", x.handler(2, 1), 1);
    }

    /** "LOCKS are on (1) or off (0): what they were. NONE." */
    private static void promise11Locks() {
        DriverBook x = new DriverBook();
        x.field(0, 0, 2, Due.PLAIN, 0);
        x.field(0, 2, 2, Due.PLAIN, 0);
        x.field(0, 4, 1, Due.FLAG, 0);
        x.act();
        x.handler(2, 0);
        x.step(0, Due.SET, 0, 1, 0);
        x.wait(1);
        for (int on : new int[] {-1, 2, MIN, MAX}) {
            due.is(Due.call("locks", on), x.locks(on), NONE);
            due.is("they are on at first", x.count(7), 1);
        }
        due.is("with a LOCK and a FREE", x.code(0), 4);
        due.is("what they were", x.locks(0), 1);
        due.is("off", x.count(7), 0);
        due.is("without", x.code(0), 2);
        due.is("what they were", x.locks(0), 0);
        due.is("NONE", x.locks(2), NONE);
        due.is("still off", x.count(7), 0);
        due.is("what they were", x.locks(1), 0);
        due.is("what they were", x.locks(1), 1);
        due.is("with them again", x.code(0), 4);
        due.is("no POWER", x.count(4), 1);
    }

    /** "How many INSTRUCTIONS an ACT's CODE has. NONE: no such ACT." */
    private static void promise12Code() {
        DriverBook x = new DriverBook();
        x.field(0, 0, 2, Due.PLAIN, 0);
        x.field(0, 2, 2, Due.PLAIN, 0);
        x.field(1, 0, 2, Due.PLAIN, 0);
        x.field(1, 2, 1, Due.FLAG, 0);
        x.field(2, 0, 2, Due.TAKEN, 0);
        x.field(2, 2, 2, Due.PLAIN, 0);
        x.field(2, 4, 2, Due.PLAIN, 0);
        due.is("no such ACT", x.code(0), NONE);
        x.act();
        x.act();
        for (int a : new int[] {-1, 2, 6, MIN, MAX}) {
            due.is(Due.call("code", a), x.code(a), NONE);
        }
        int[][] steps = {{Due.SET, 0, 1}, {Due.SET, 1, 2}, {Due.SET, 0, 3}, {Due.SET, 2, 1}, {Due.SET, 5, 1}, {Due.AWAIT, 1, 2},
            {Due.GET, 4, 0}, {Due.PAUSE, -1, 5}};
        // 0 alone: READ and WRITE; with 1: one WRITE; 0 again: two more; by nothing; by SHADOW; POLL; READ and PICK; PAUSE
        int[] sizes = {2, 1, 3, 4, 5, 6, 8, 9};
        for (int k = 0; k < steps.length; k++) {
            x.step(0, steps[k][0], steps[k][1], steps[k][2], 0);
            due.is("behind STEP " + k, x.code(0), sizes[k]);
        }
        x.law(0, 1, 0, 0);
        due.is("a LAW parts 0 and 1", x.code(0), 12);
        x.handler(3, 1);
        due.is("a HANDLER brings a LOCK and a FREE for each of three", x.code(0), 18);
        due.is("the other ACT has none", x.code(1), 0);
        due.is("no TICK passed", x.count(4), 0);
    }

    /**
     * "Of an ACT's i-th INSTRUCTION: what 0 which (0 .. 6); 1 its REGISTER (of PICK the FIELD, of PAUSE the TICKS; else -2);
     * 2 by what (of WRITE; else -2); 3 KEEP (of WRITE) or mask (of POLL; else -2); 4 PUT or value (likewise; else -2);
     * 5 limit (of POLL; else -2). NONE: there is none, no such what."
     */
    private static void promise13Op() {
        DriverBook x = new DriverBook();
        x.field(3, 1, 2, Due.PLAIN, 0);
        x.field(3, 4, 3, Due.PLAIN, 0);
        x.field(2, 5, 2, Due.FLAG, 0);
        x.field(1, 8, 4, Due.HELD, 0);
        x.field(1, 12, 4, Due.HELD, 0);
        x.act();
        x.handler(2, 0);
        x.step(0, Due.SET, 0, 3, 0);
        x.step(0, Due.SET, 4, 9, 0);
        x.step(0, Due.SET, 2, 2, 0);
        x.step(0, Due.AWAIT, 1, 5, 20);
        x.step(0, Due.GET, 3, 0, 0);
        x.step(0, Due.PAUSE, -1, 7, 0);
        int[][] parts = {
            {5, -2, -2, -2, -2, -2}, {0, 3, -2, -2, -2, -2}, {1, 3, 1, 7 << 4, 3 << 1, -2}, {6, -2, -2, -2, -2, -2},
            {1, 1, 2, 15 << 8, 9 << 12, -2}, {1, 2, 0, 0, 2 << 5, -2}, {2, 3, -2, 7 << 4, 5 << 4, 20}, {0, 1, -2, -2, -2, -2},
            {4, 3, -2, -2, -2, -2}, {3, 7, -2, -2, -2, -2},
        };
        for (int i = 0; i < parts.length; i++) {
            due.op("INSTRUCTION " + i, x, 0, i, parts[i]);
            due.is("no such what", x.op(0, i, 6), NONE);
            due.is("no such what", x.op(0, i, -1), NONE);
        }
        for (int what = 0; what < 6; what++) {
            due.is("no such INSTRUCTION", x.op(0, parts.length, what), NONE);
            due.is("no such INSTRUCTION", x.op(0, -1, what), NONE);
            due.is("no such INSTRUCTION", x.op(0, MAX, what), NONE);
            due.is("no such ACT", x.op(1, 0, what), NONE);
            due.is("no such ACT", x.op(-1, 0, what), NONE);
        }
        due.is("no TICK passed", x.count(4), 0);
    }

    /** "Whether two ACTS have the same CODE (1, 0). NONE: no such ACT." */
    private static void promise14Same() {
        DriverBook x = new DriverBook();
        x.field(0, 0, 2, Due.PLAIN, 0);
        x.field(0, 2, 2, Due.PLAIN, 0);
        x.field(1, 0, 2, Due.FLAG, 0);
        x.field(1, 2, 2, Due.PULSE, 0);
        for (int a = 0; a < 3; a++) {
            x.act();
        }
        for (int a : new int[] {-1, 3, 6, MIN, MAX}) {
            due.is(Due.call("same", a, 0), x.same(a, 0), NONE);
            due.is(Due.call("same", 0, a), x.same(0, a), NONE);
            due.is(Due.call("same", a, a), x.same(a, a), NONE);
        }
        due.is("both have none", x.same(0, 1), 1);
        x.step(0, Due.SET, 0, 1, 0);
        due.is("one has none", x.same(0, 1), 0);
        due.is("either way", x.same(1, 0), 0);
        x.step(0, Due.SET, 1, 2, 0);
        x.step(1, Due.SET, 1, 2, 0);
        x.step(1, Due.SET, 0, 1, 0);
        due.is("other STEPS, the same CODE", x.same(0, 1), 1);
        x.law(0, 0, 1, 0);
        due.is("by a LAW in two orders", x.same(0, 1), 0);
        x.bare(0);
        x.bare(1);
        x.step(0, Due.SET, 2, 1, 0);
        x.step(0, Due.SET, 3, 0, 0);
        x.step(1, Due.SET, 2, 1, 0);
        due.is("a PULSE set to 0 adds no bits", x.same(0, 1), 1);
        x.step(1, Due.PAUSE, -1, 1, 0);
        due.is("one more", x.same(0, 1), 0);
        x.step(0, Due.PAUSE, -1, 2, 0);
        due.is("another number", x.same(0, 1), 0);
        due.is("an ACT and itself", x.same(1, 1), 1);
        due.is("no TICK passed", x.count(4), 0);
    }
}
