/** Promises 15 to 26: a method for each, which goes through the promise's words from the first to the last. */
public final class ChipPromisesTest {
    private static final int NONE = -1, FULL = -3, KIND = -4, TIMEOUT = -5, LATE = -6;
    private static final int MIN = Integer.MIN_VALUE, MAX = Integer.MAX_VALUE;
    private static final Due due = new Due();
    private static final Twins twins = new Twins(due);

    public static void main(String[] args) {
        promise15Power();
        promise16Event();
        promise16EventRefused();
        promise17Run();
        promise17RunWithAHandler();
        promise17RunByTimeout();
        promise18Read();
        promise19Write();
        promise19WriteUnderLaws();
        promise20Wait();
        promise21Peek();
        promise22Shadow();
        promise23Result();
        promise24Breaks();
        promise25Walk();
        promise25WalkOfEachRule();
        promise25WalkRefused();
        promise26Why();
        due.end("ChipPromisesTest");
    }

    /** "POWER: how many FIELDS there are." */
    private static void promise15Power() {
        DriverBook x = Scenes.rich();
        due.is("how many FIELDS", x.power(), 11);
        Scenes.powered(due, "power", x);
        due.is("again", x.power(), 11);
        due.is("REGISTERS stay", x.count(0), 5);
        due.is("LAWS, ACTS and LOCKS stay", 100 * x.count(2) + 10 * x.count(3) + x.count(7), 340);
        due.is("the host's refusals stay", x.count(8), 1);
        due.is("the last WALK stays", x.why(0), 3);
        due.is("a HANDLER stays", x.handler(7, 0), 0);
        due.is("rows stay", x.at(4, 3), 43);
        due.is("an IMAGE stays, and is no older", x.back(5), 12);
        due.is("a PERIOD stays", x.period(5, 9), 9);
        due.is("a DONE field stays", x.done(5, 7), 7);
        due.is("STEPS stay", x.bare(1), 6);
        due.is("no FIELDS", new DriverBook().power(), 0);
        due.is("24", Scenes.full().power(), 24);
    }

    /** "An EVENT is told for a tick: how many are still to come." */
    private static void promise16Event() {
        DriverBook x = Scenes.kinds();
        due.is("of a STATUS", x.event(1, 1, 2), 1);
        due.is("of a FLAG", x.event(2, 1, 2), 2);
        due.is("of a TAKEN", x.event(3, 1, 2), 3);
        due.is("an earlier one told later", x.event(1, 3, 1), 4);
        due.is("two of a tick, in the order told", x.event(1, 2, 2), 5);
        due.is("bits besides", x.event(2, 2, 3), 6);
        due.is("bits besides", x.event(3, 2, 3), 7);
        due.is("the last tick that may be", x.event(2, 0, 9999), 8);
        due.is("telling passes no TICK", x.count(4), 0);
        due.is("nor changes a value", x.peek(1, 0) + x.peek(2, 0) + x.peek(3, 0), 0);
        x.wait(1);
        due.is("at tick 1", x.peek(1, 0), 3);
        due.is("still to come", x.count(6), 7);
        x.wait(1);
        due.is("the STATUS becomes the last one's", x.peek(1, 0), 2);
        due.is("the FLAG", x.peek(2, 0), 1);
        due.is("the TAKEN", x.peek(3, 0), 1);
        due.is("still to come", x.count(6), 3);
        x.wait(1);
        due.is("the FLAG has both bits", x.peek(2, 0), 3);
        due.is("the TAKEN has both bits", x.peek(3, 0), 3);
        due.is("the STATUS stays", x.peek(1, 0), 2);
        due.is("how many are still to come", x.event(1, 0, 4), 2);
        x.wait(1);
        due.is("a STATUS may become 0", x.peek(1, 0), 0);
        due.is("still to come", x.count(6), 1);
    }

    /**
     * "NONE: no such FIELD; v is not a number of its width, or the tick above 9999; KIND: it is neither STATUS, FLAG nor
     * TAKEN; LATE: the tick isn't above NOW; FULL: 16 are to come."
     */
    private static void promise16EventRefused() {
        DriverBook x = Scenes.kinds();
        x.wait(2);
        for (int full = 0; full < 2; full++) {
            for (int[] a : new int[][] {{-1, 0, 5}, {7, 0, 5}, {MAX, 0, 5}, {1, 4, 5}, {2, -1, 5}, {3, MAX, 5}, {1, 1, 10000},
                {1, 1, MAX}, {0, 4, 5}, {0, 0, 10000}, {7, 0, 1}, {2, 4, 1}, {2, -1, MIN}}) {
                due.is(Due.call("event", a[0], a[1], a[2]), x.event(a[0], a[1], a[2]), NONE);
            }
            for (int f : new int[] {0, 4, 5, 6}) {
                due.is("of another KIND", x.event(f, 1, 5), KIND);
                due.is("of another KIND, and late", x.event(f, 1, 2), KIND);
            }
            for (int tick : new int[] {2, 1, 0, -1, MIN}) {
                due.is("LATE", x.event(2, 1, tick), LATE);
            }
            due.is("none was told", x.count(6), 16 * full);
            for (int k = 1; k <= 16 && full == 0; k++) {
                due.is("how many", x.event(2, 0, k == 1 ? 3 : 2 + k), k);
            }
        }
        due.is("FULL", x.event(1, 3, 3), FULL);
        due.is("16", x.count(6), 16);
        x.wait(1);
        due.is("what was FULL didn't come", x.peek(1, 0), 0);
        due.is("one has come", x.count(6), 15);
        due.is("so there is a place", x.event(1, 3, 4), 16);
        due.is("and none more", x.event(1, 3, 4), FULL);
    }

    /** PLAINS 0, 1 in REGISTER 0; STATUS 2 in 1; TAKEN 3 and PLAIN 4 in 2; HELD 5 and LOAD 6 in 3; six ACTS. */
    private static DriverBook chip() {
        DriverBook x = new DriverBook();
        x.field(0, 0, 4, Due.PLAIN, 5);
        x.field(0, 4, 4, Due.PLAIN, 6);
        x.field(1, 0, 2, Due.STATUS, 0);
        x.field(2, 0, 3, Due.TAKEN, 0);
        x.field(2, 3, 3, Due.PLAIN, 1);
        x.field(3, 0, 4, Due.HELD, 2);
        x.field(3, 4, 1, Due.LOAD, 0);
        for (int a = 0; a < 6; a++) {
            x.act();
        }
        x.step(0, Due.SET, 0, 9, 0);
        x.step(1, Due.SET, 5, 7, 0);
        x.step(1, Due.SET, 6, 1, 0);
        x.step(2, Due.GET, 3, 0, 0);
        x.step(3, Due.GET, 4, 0, 0);
        x.step(4, Due.SET, 4, 3, 0);
        x.step(4, Due.AWAIT, 2, 3, 2);
        x.step(4, Due.SET, 0, 1, 0);
        return x;
    }

    /** "An ACT RUNS: how many TICKS passed. NONE: no such ACT". */
    private static void promise17Run() {
        DriverBook x = chip();
        for (int a : new int[] {-1, 6, MIN, MAX}) {
            due.is(Due.call("run", a), x.run(a), NONE);
        }
        due.is("no TICK passed", x.count(4), 0);
        due.is("a READ and a WRITE", x.run(0), 2);
        due.is("what it SET", x.peek(0, 0), 9);
        due.is("its neighbour stays", x.peek(1, 0), 6);
        due.is("its SHADOW", x.shadow(0), 0x69);
        due.is("NOW", x.count(4), 2);
        due.is("HELD and LOAD by one WRITE", x.run(1), 1);
        due.is("PENDING", x.peek(5, 1), 7);
        due.is("loaded", x.peek(5, 0), 7);
        due.is("the SHADOW has the HELD bits alone", x.shadow(3), 7);
        x.event(3, 5, 4);
        x.wait(1);
        due.is("a READ; a PICK passes no TICK", x.run(3), 1);
        due.is("RESULT", x.result(), 1);
        due.is("the TAKEN bits are taken", x.peek(3, 0), 0);
        due.is("and saved", x.peek(3, 3), 5);
        due.is("the SOFT is picked", x.run(2) + 10 * x.result(), 51);
        due.is("and is 0 then", x.peek(3, 3), 0);
        due.is("an ACT without STEPS", x.run(5), 0);
        int now = x.count(4);
        x.event(2, 3, now + 3);
        due.is("a WRITE, three READS, a READ and a WRITE", x.run(4), 6);
        due.is("NOW", x.count(4), now + 6);
        due.is("what it SET", x.peek(0, 0), 1);
        x.step(5, Due.PAUSE, -1, 9, 0);
        due.is("nine TICKS", x.run(5), 9);
        due.is("no ACTS", new DriverBook().run(0), NONE);
        due.is("STEPS, CODE and ACTS stay", 100 * x.count(3) + 10 * x.bare(4) + x.code(0), 632);
    }

    /** The TICKS of HANDLERS are among those that passed; SERVED grows; RESULT is the ACT's. */
    private static void promise17RunWithAHandler() {
        DriverBook x = new DriverBook();
        x.field(0, 0, 2, Due.FLAG, 0);
        x.field(1, 0, 4, Due.PLAIN, 9);
        x.field(2, 0, 1, Due.STATUS, 0);
        for (int a = 0; a < 3; a++) {
            x.act();
        }
        x.step(0, Due.SET, 0, 3, 0);
        x.step(0, Due.GET, 1, 0, 0);
        x.step(1, Due.PAUSE, -1, 2, 0);
        x.step(2, Due.AWAIT, 2, 1, 0);
        x.handler(0, 0);
        due.is("nothing comes between", x.run(1), 2);
        x.event(0, 1, 3);
        due.is("a HANDLER of two TICKS comes between", x.run(1), 4);
        due.is("SERVED", x.count(5), 1);
        due.is("its RESULT is thrown away", x.result(), 0);
        due.is("it cleared the FLAG", x.peek(0, 0), 0);
        x.event(0, 1, 8);
        due.is("a HANDLER behind the last TICK", x.run(1), 4);
        due.is("SERVED", x.count(5), 2);
        x.event(0, 1, 11);
        due.is("a HANDLER behind a TIMEOUT", x.run(2), TIMEOUT);
        due.is("SERVED", x.count(5), 3);
        due.is("its TICKS too", x.count(4), 13);
    }

    /** "TIMEOUT: it ended by that (all that it did stays)." */
    private static void promise17RunByTimeout() {
        DriverBook x = chip();
        x.event(3, 6, 1);
        x.step(3, Due.AWAIT, 2, 1, 20);
        due.is("TIMEOUT", x.run(4), TIMEOUT);
        due.is("a WRITE and three READS", x.count(4), 4);
        due.is("what it SET ahead of it stays", x.peek(4, 0), 3);
        due.is("and the SHADOW of it", x.shadow(2), 3 << 3);
        due.is("what is behind it wasn't done", x.peek(0, 0), 5);
        due.is("a GET, then 21 READS", x.run(3), TIMEOUT);
        due.is("NOW", x.count(4), 26);
        due.is("the RESULT stays", x.result(), 3);
        due.is("the SOFT stays", x.peek(3, 3), 6);
        due.is("the next RUN isn't touched by it", x.run(0), 2);
        due.is("it is no refusal of the host's", x.count(8), 0);
    }

    /** "A READ by hand (SOFTS get nothing). NONE: no such REGISTER." */
    private static void promise18Read() {
        DriverBook x = Scenes.kinds();
        x.handler(2, 0);
        x.event(1, 2, 1);
        x.event(2, 3, 1);
        x.event(3, 1, 1);
        x.event(3, 2, 2);
        x.write(0, 3 | 2 << 8 | 1 << 10 | 3 << 14);
        for (int r : new int[] {-1, 4, 8, MIN, MAX}) {
            due.is(Due.call("read", r), x.read(r), NONE);
        }
        due.is("refused, no TICK passed", x.count(4), 1);
        due.is("and nothing was taken", x.peek(3, 0), 1);
        due.is("each value at its bits", x.read(0), 3 | 2 << 2 | 3 << 4 | 1 << 6 | 2 << 8);
        due.is("a TICK passed", x.count(4), 2);
        due.is("taken, then its EVENT came", x.peek(3, 0), 2);
        due.is("SOFTS get nothing", x.peek(3, 3), 0);
        due.is("what isn't TAKEN stays", x.peek(0, 0) + x.peek(1, 0) + x.peek(2, 0), 8);
        due.is("the PULSE's TIMER fell", x.peek(4, 2), 1);
        due.is("PENDING isn't read, but stays", x.peek(5, 1), 1);
        due.is("no HANDLER runs", x.count(5), 0);
        due.is("the SHADOW gets nothing", x.shadow(0), 0);
        due.is("RESULT gets nothing", x.result(), 0);
        x.write(0, 3 | 3 << 12);
        due.is("a LOAD's bits are always 0; the HELD value is 0 again", x.read(0), 3 | 2 << 2 | 3 << 4 | 2 << 6);
        due.is("a REGISTER without FIELDS", x.read(3), 0);
        due.is("a TICK passed there too", x.count(4), 5);
        due.is("READS break no LAWS", x.breaks(0), 0);
    }

    /** "A WRITE by hand (the SHADOW gets nothing): NOW. NONE: no such REGISTER, not 0 .. 65535." */
    private static void promise19Write() {
        DriverBook x = Scenes.kinds();
        x.handler(2, 0);
        x.event(1, 2, 1);
        x.event(2, 3, 1);
        x.event(3, 3, 1);
        x.wait(1);
        for (int[] a : new int[][] {{-1, 0}, {4, 0}, {MAX, 0}, {0, -1}, {0, 65536}, {0, MIN}, {0, MAX}, {4, 65536}}) {
            due.is(Due.call("write", a[0], a[1]), x.write(a[0], a[1]), NONE);
        }
        due.is("refused, no TICK passed", x.count(4), 1);
        due.is("NOW", x.write(0, 2 | 1 << 4 | 3 << 8 | 1 << 10), 2);
        due.is("PLAIN", x.peek(0, 0), 2);
        due.is("STATUS: nothing", x.peek(1, 0), 2);
        due.is("FLAG: its bits that are 1 become 0", x.peek(2, 0), 2);
        due.is("TAKEN: nothing", x.peek(3, 0), 3);
        due.is("PULSE", x.peek(4, 0), 3);
        due.is("its TIMER is the PERIOD, then a TICK passes", x.peek(4, 2), 2);
        due.is("HELD: PENDING alone", 10 * x.peek(5, 1) + x.peek(5, 0), 10);
        due.is("the SHADOW gets nothing", x.shadow(0), 0);
        due.is("no HANDLER runs", x.count(5), 0);
        due.is("all bits", x.write(0, 65535), 3);
        due.is("the LOAD takes the PENDING of this WRITE", x.peek(5, 0), 3);
        due.is("a PULSE anew", x.peek(4, 2), 2);
        due.is("no bits", x.write(0, 0), 4);
        due.is("PLAIN", x.peek(0, 0), 0);
        due.is("a PULSE goes on", 10 * x.peek(4, 0) + x.peek(4, 2), 31);
        due.is("PENDING falls, the value stays", 10 * x.peek(5, 1) + x.peek(5, 0), 3);
        due.is("a REGISTER without FIELDS", x.write(3, 65535), 5);
        due.is("the PULSE ended", 10 * x.peek(4, 0) + x.peek(4, 2), 0);
        due.is("the SHADOWS still", x.shadow(0) + x.shadow(3), 0);
    }

    /** "first the LAWS are looked at"; "A WRITE is done all the same." */
    private static void promise19WriteUnderLaws() {
        DriverBook x = new DriverBook();
        x.field(0, 0, 4, Due.PLAIN, 0);
        x.field(0, 4, 4, Due.PLAIN, 0);
        x.law(0, 0, 1, 7);
        x.law(1, 0, 1, 7);
        x.law(2, 1, 0, 3);
        due.is("LAW 1 by the value of ahead of it", x.write(0, 0x71), 1);
        due.is("BREAKS", x.breaks(0), 1);
        due.is("its LAW", x.breaks(1), 1);
        due.is("done all the same", x.read(0), 0x71);
        x.write(0, 0x81);
        due.is("FIELD 1, two TICKS behind the HIT of 0", x.breaks(0), 2);
        x.write(0, 0x91);
        due.is("three TICKS behind it", x.breaks(0), 2);
        x.write(0, 0x91);
        due.is("what HITS nothing BREAKS nothing", x.breaks(0), 2);
        due.is("NOW", x.count(4), 5);
    }

    /** "n TICKS pass (no HANDLER runs): NOW. NONE: not 0 .. 50." */
    private static void promise20Wait() {
        DriverBook x = Scenes.kinds();
        x.step(0, Due.SET, 2, 3, 0);
        x.handler(2, 0);
        x.event(2, 1, 1);
        x.event(1, 3, 50);
        x.write(0, 3 << 8);
        for (int n : new int[] {-1, 51, MIN, MAX}) {
            due.is(Due.call("wait", n), x.wait(n), NONE);
        }
        due.is("refused, no TICK passed", x.count(4), 1);
        due.is("none passes", x.wait(0), 1);
        due.is("one", x.wait(1), 2);
        due.is("a TIMER falls", x.peek(4, 2), 1);
        due.is("47", x.wait(47), 49);
        due.is("the PULSE ended", x.peek(4, 0), 0);
        due.is("the EVENT hasn't come", x.peek(1, 0), 0);
        due.is("at its tick", x.wait(1) + x.peek(1, 0), 53);
        due.is("fifty", x.wait(50), 100);
        due.is("no HANDLER runs", x.count(5), 0);
        due.is("so the FLAG stays up", x.peek(2, 0), 1);
        for (int n = 1, now = 100; n < 50; n++) {
            now += n;
            due.is(Due.call("wait", n), x.wait(n), now);
        }
    }

    /**
     * "A FIELD: what 0 its value, 1 PENDING (of HELD), 2 TIMER (of PULSE), 3 SOFT (of TAKEN). NONE: no such FIELD, what; KIND:
     * it has no such."
     */
    private static void promise21Peek() {
        DriverBook x = new DriverBook();
        for (int kind = 0; kind < 7; kind++) {
            x.field(kind / 2, kind % 2 * 8, 8, kind, kind == Due.PULSE || kind == Due.LOAD ? 0 : 200 + kind);
        }
        x.act();
        x.step(0, Due.GET, 2, 0, 0);
        x.run(0);
        x.write(2, 44 | 77 << 8);
        int[] values = {200, 201, 202, 0, 44, 205, 0};
        int[] others = {KIND, 77, 2, 203};
        int[] owners = {-1, Due.HELD, Due.PULSE, Due.TAKEN};
        for (int kind = 0; kind < 7; kind++) {
            due.is("its value", x.peek(kind, 0), values[kind]);
            for (int what = 1; what <= 3; what++) {
                due.is(Due.call("peek", kind, what), x.peek(kind, what), kind == owners[what] ? others[what] : KIND);
            }
            for (int what : new int[] {-1, 4, MIN, MAX}) {
                due.is(Due.call("peek", kind, what), x.peek(kind, what), NONE);
            }
        }
        for (int f : new int[] {-1, 7, 24, MIN, MAX}) {
            for (int what = -1; what <= 4; what++) {
                due.is(Due.call("peek", f, what), x.peek(f, what), NONE);
            }
        }
        twins.leaves("peek", Scenes::rich, 6, y -> y.peek(3, 1));
        twins.leaves("peek of a TAKEN takes nothing", Scenes::rich, 1, y -> y.peek(2, 3));
    }

    /** "The SHADOW of a REGISTER. NONE: no such REGISTER." */
    private static void promise22Shadow() {
        DriverBook x = Scenes.rich();
        int[] shadows = {3, 5, 0, 0x54, 0};
        for (int r = 0; r < 5; r++) {
            due.is(Due.call("shadow", r), x.shadow(r), shadows[r]);
        }
        for (int r : new int[] {-1, 5, 8, MIN, MAX}) {
            due.is(Due.call("shadow", r), x.shadow(r), NONE);
        }
        DriverBook y = new DriverBook();
        for (int kind = 0; kind < 7; kind++) {
            y.field(0, 2 * kind, 2, kind, kind == Due.PULSE || kind == Due.LOAD ? 0 : 2);
        }
        due.is("the RESET bits of PLAIN and HELD", y.shadow(0), 2 | 2 << 10);
        y.act();
        for (int f : new int[] {0, 2, 4, 5, 6}) {
            y.step(0, Due.SET, f, 3, 0);
        }
        y.run(0);
        due.is("the bits of PLAIN and HELD that were WRITTEN", y.shadow(0), 3 | 3 << 10);
        y.write(0, 0);
        due.is("not what is WRITTEN by hand", y.shadow(0), 3 | 3 << 10);
        due.is("the others stay", y.shadow(1), 0);
        twins.leaves("shadow", Scenes::rich, 0x54, z -> z.shadow(3));
    }

    /** "RESULT." */
    private static void promise23Result() {
        DriverBook x = new DriverBook();
        x.field(0, 8, 8, Due.PLAIN, 255);
        x.field(1, 3, 4, Due.TAKEN, 0);
        for (int a = 0; a < 3; a++) {
            x.act();
        }
        x.step(0, Due.GET, 0, 0, 0);
        x.step(1, Due.GET, 1, 0, 0);
        x.step(2, Due.SET, 0, 1, 0);
        x.step(2, Due.PAUSE, -1, 1, 0);
        due.is("0 at first", x.result(), 0);
        x.run(0);
        due.is("f's bits as a number", x.result(), 255);
        x.run(2);
        due.is("an ACT without a GET leaves it", x.result(), 255);
        x.event(1, 9, 4);
        x.read(0);
        due.is("a READ by hand leaves it", x.result(), 255);
        x.run(1);
        due.is("of a TAKEN f its SOFT", x.result(), 9);
        x.run(1);
        due.is("which became 0", x.result(), 0);
        x.run(0);
        due.is("another one", x.result(), 1);
        x.power();
        due.is("0 by POWER", x.result(), 0);
        twins.leaves("result", Scenes::rich, 9, y -> y.result());
    }

    /** "BREAKS: what 0 how many, 1 the first one's LAW, 2 its NOW. NONE: no such what, or (1, 2) there is none." */
    private static void promise24Breaks() {
        DriverBook x = new DriverBook();
        x.field(0, 0, 4, Due.PLAIN, 0);
        x.field(0, 4, 4, Due.PLAIN, 0);
        x.law(0, 1, 0, 1);
        x.law(0, 0, 0, 0);
        x.law(1, 0, 1, 5);
        due.is("how many", x.breaks(0), 0);
        due.is("none", x.breaks(1), NONE);
        due.is("none", x.breaks(2), NONE);
        x.wait(7);
        x.write(0, 1);
        due.is("LAW by LAW", x.breaks(0), 2);
        due.is("the first one's LAW", x.breaks(1), 1);
        due.is("its NOW, ahead of the TICK", x.breaks(2), 7);
        x.write(0, 0x11);
        due.is("LAW 0 besides", x.breaks(0), 3);
        due.is("the first one's LAW", x.breaks(1), 1);
        due.is("its NOW", x.breaks(2), 7);
        for (int what : new int[] {-1, 3, MIN, MAX}) {
            due.is(Due.call("breaks", what), x.breaks(what), NONE);
        }
        x.power();
        due.is("none", x.breaks(0), 0);
        due.is("none", x.breaks(1), NONE);
        due.is("none", x.breaks(2), NONE);
        x.write(0, 0x01);
        due.is("a first one again, at NOW 0", 10 * x.breaks(1) + x.breaks(2), 10);
        x.power();
        x.write(0, 0x50);
        x.write(0, 0x51);
        due.is("one alone", x.breaks(0), 1);
        due.is("its LAW", x.breaks(1), 1);
        due.is("its NOW", x.breaks(2), 1);
        twins.leaves("breaks", Scenes::rich, 2, y -> y.breaks(0));
    }

    /**
     * PLAINS 0 and 1 in REGISTER 0, FLAG 2 with ACT 0 as its HANDLER (SET 2 1, SET 1 9) in 1, HELD 3 in 2, FLAG 4 without one
     * in 1, STATUS 5 in 3; ACT 1 is walked.
     */
    private static DriverBook walked() {
        DriverBook x = new DriverBook();
        x.field(0, 0, 4, Due.PLAIN, 0);
        x.field(0, 4, 4, Due.PLAIN, 2);
        x.field(1, 0, 2, Due.FLAG, 0);
        x.field(2, 0, 4, Due.HELD, 3);
        x.field(1, 2, 1, Due.FLAG, 0);
        x.field(3, 0, 4, Due.STATUS, 0);
        x.act();
        x.act();
        x.step(0, Due.SET, 2, 1, 0);
        x.step(0, Due.SET, 1, 9, 0);
        x.handler(2, 0);
        return x;
    }

    private static void walk(String what, DriverBook x, int t, int rule, int field) {
        due.is(what, x.walk(1, 2), t);
        due.is(what + ": why(0)", x.why(0), rule);
        due.is(what + ": why(1)", x.why(1), field);
    }

    /** "The WALK of an ACT and a FLAG (the STATE is as ahead of it): 0 if all is well, else the least t at which not." */
    private static void promise25Walk() {
        DriverBook x = walked();
        due.is("no TICKS", x.walk(1, 2), 0);
        x.step(1, Due.PAUSE, -1, 3, 0);
        x.step(1, Due.SET, 0, 5, 0);
        walk("all is well under LOCKS", x, 0, NONE, NONE);
        x.locks(0);
        // FLAG 2 comes up behind the READ: the HANDLER's 9 is written over by what was read ahead of it
        walk("the fourth of five TICKS", x, 4, 3, 1);
        due.is("NOW is as ahead of it", x.count(4), 0);
        due.is("SERVED is as ahead of it", x.count(5), 0);
        due.is("EVENTS are as ahead of it", x.count(6), 0);
        due.is("the SHADOW is as ahead of it", x.shadow(0), 0x20);
        due.is("values are as ahead of it", 10 * x.peek(0, 0) + x.peek(1, 0), 2);
        x.wait(6);
        walk("t is counted from NOW on", x, 4, 3, 1);
        due.is("NOW is as ahead of it", x.count(4), 6);
        x.locks(1);
        due.is("well", x.walk(1, 2), 0);
        due.is("a walk that is well tells no t", 10 * x.why(0) + x.why(1), 31);
        twins.leaves("walk", Scenes::rich, Scenes.rich().walk(1, 7), y -> y.walk(1, 7), "state", "code", "book", "fields", "tapes",
                "ticks", "writes", "runs", "walks");
        twins.leaves("walk of many EVENTS", Scenes::full, FULL, y -> y.walk(0, 1));
    }

    /** The four of "It is well if". */
    private static void promise25WalkOfEachRule() {
        DriverBook x = walked();
        x.step(1, Due.PAUSE, -1, 1, 0);
        x.step(1, Due.AWAIT, 1, 2, 0);
        walk("(1) a TIMEOUT, for the HANDLER came ahead of the POLL", x, 1, 1, -2);
        DriverBook y = walked();
        y.law(0, 0, 1, 9);
        y.step(1, Due.PAUSE, -1, 2, 0);
        y.step(1, Due.SET, 0, 5, 0);
        walk("(2) the HANDLER's 9 makes a BREAK", y, 1, 2, -2);
        due.is("BREAKS are as ahead of it", y.breaks(0), 0);
        DriverBook z = walked();
        z.locks(0);
        z.step(0, Due.SET, 3, 6, 0);
        z.step(1, Due.SET, 3, 7, 0);
        z.step(1, Due.PAUSE, -1, 1, 0);
        z.step(1, Due.SET, 3, 8, 0);
        due.is("(3) PENDING is either's last", z.walk(1, 2), 0);
        z.step(1, Due.SET, 1, 4, 0);
        due.is("(3) both SET FIELD 1 too", z.walk(1, 2), 0);
        z.step(1, Due.SET, 0, 1, 0);
        walk("(3) FIELD 1 as it was read ahead of the HANDLER is either's", z, 0, NONE, NONE);
        z.step(1, Due.SET, 0, 2, 0);
        z.bare(0);
        z.step(0, Due.SET, 2, 1, 0);
        z.step(0, Due.SET, 0, 7, 0);
        z.step(0, Due.SET, 1, 5, 0);
        z.step(0, Due.SET, 0, 3, 0);
        due.is("(3) the last one of each", z.walk(1, 2), 0);
        DriverBook w = walked();
        w.bare(0);
        w.step(1, Due.PAUSE, -1, 1, 0);
        walk("(4) it is SERVED eight times", w, 1, 4, -2);
        w.step(0, Due.SET, 2, 1, 0);
        due.is("(4) once", w.walk(1, 2), 0);
        w.event(2, 1, 1);
        walk("(4) no more than without it", w, 1, 4, -2);
    }

    /**
     * "NONE: no such ACT, FIELD; KIND: it is no FLAG with a HANDLER; TIMEOUT: the first RUN has one; FULL: 16 EVENTS are to
     * come."
     */
    private static void promise25WalkRefused() {
        DriverBook x = walked();
        x.step(1, Due.AWAIT, 5, 1, 0);
        for (int full = 0; full < 2; full++) {
            for (int[] a : new int[][] {{-1, 2}, {2, 2}, {MAX, 2}, {1, -1}, {1, 6}, {1, MIN}, {2, 0}, {-1, 6}}) {
                due.is(Due.call("walk", a[0], a[1]), x.walk(a[0], a[1]), NONE);
            }
            for (int f : new int[] {0, 1, 3, 4, 5}) {
                due.is("no FLAG with a HANDLER", x.walk(1, f), KIND);
            }
            due.is("the first RUN has a TIMEOUT", x.walk(1, 2), TIMEOUT);
            due.is("NOW is as ahead of it", x.count(4), 0);
            for (int k = 0; k < 16 && full == 0; k++) {
                x.event(2, 0, 50 + k);
                due.is("EVENTS", x.count(6), k + 1);
            }
        }
        due.is("FULL", x.walk(0, 2), FULL);
        x.bare(0);
        due.is("FULL, also of an ACT without TICKS", x.walk(0, 2), FULL);
        due.is("no WALK told a t", x.why(0), NONE);
        x.wait(50);
        due.is("fifteen are to come", x.count(6), 15);
        due.is("that is not too many", x.walk(0, 2), 0);
        x.handler(2, -1);
        due.is("its HANDLER was taken away", x.walk(0, 2), KIND);
        twins.refused("walk by a TIMEOUT", Scenes::rich, TIMEOUT, y -> y.walk(3, 7));
        twins.refused("walk of a PLAIN", Scenes::rich, KIND, y -> y.walk(1, 0));
        twins.refused("walk of no ACT", Scenes::rich, NONE, y -> y.walk(4, 7));
    }

    /**
     * "Of the last WALK since begin() that told a t: what 0 which of (1) to (4) isn't well there, the first; 1 for (3) the
     * first FIELD by number, else -2. NONE: there was none, no such what."
     */
    private static void promise26Why() {
        DriverBook x = walked();
        for (int what = -1; what <= 2; what++) {
            due.is("there was none", x.why(what), NONE);
        }
        x.step(1, Due.PAUSE, -1, 1, 0);
        due.is("a WALK that is well", x.walk(1, 2), 0);
        due.is("tells no t", x.why(0), NONE);
        x.step(1, Due.AWAIT, 1, 2, 0);
        x.law(0, 1, 1, 2);
        walk("(1) and (2), the first", x, 1, 1, -2);
        x.bare(1);
        x.step(1, Due.PAUSE, -1, 1, 0);
        walk("(2) alone", x, 1, 2, -2);
        DriverBook y = walked();
        y.locks(0);
        y.bare(0);
        y.step(0, Due.SET, 2, 0, 0);
        y.step(0, Due.SET, 0, 4, 0);
        y.step(0, Due.SET, 1, 7, 0);
        y.step(1, Due.PAUSE, -1, 1, 0);
        due.is("(4), for the FLAG stays up", y.walk(1, 2) + 10 * y.why(0), 41);
        y.field(0, 8, 4, Due.PLAIN, 1);
        y.bare(0);
        y.step(0, Due.SET, 2, 1, 0);
        y.step(0, Due.SET, 0, 4, 0);
        y.step(0, Due.SET, 1, 7, 0);
        y.bare(1);
        y.step(1, Due.SET, 6, 3, 0);
        y.event(2, 1, 1);
        // a READ, the HANDLER SETS 0 and 1, then they are written as they were read; two EVENTS at tick 1 are SERVED once
        walk("(3) and (4), the first; FIELDS 0 and 1, the first", y, 1, 3, 0);
        due.is("a WALK that is refused", y.walk(2, 2), NONE);
        y.power();
        y.image(0);
        y.back(0);
        due.is("the last that told a t", 10 * y.why(0) + y.why(1), 30);
        for (int what : new int[] {-1, 2, MIN, MAX}) {
            due.is(Due.call("why", what), y.why(what), NONE);
        }
        due.is("begin is refused", y.begin(0), NONE);
        due.is("it stays", y.why(0), 3);
        y.begin(4);
        due.is("none since begin", y.why(0), NONE);
        due.is("none since begin", y.why(1), NONE);
        twins.leaves("why", Scenes::rich, 9, z -> z.why(1));
    }
}
