/** Promises 15 to 24: power, event, run, read, write, wait, peek, shadow, result, breaks. */
public final class ChipTest {
    private static final int MIN = Integer.MIN_VALUE, MAX = Integer.MAX_VALUE;
    private static final Due due = new Due();

    public static void main(String[] args) {
        power();
        event();
        eventKinds();
        eventsAndPulses();
        runRefusals();
        runWrites();
        runByAcc();
        runByShadow();
        runPolls();
        runPicks();
        read();
        write();
        load();
        pulses();
        waits();
        peek();
        shadow();
        shadowBehindPower();
        doneOfFieldZero();
        lawsOfValues();
        lawsOfTime();
        hits();
        lawsOfLoad();
        breaks();
        due.end("ChipTest");
    }

    /** Register 0: one field of each kind, 0 PLAIN .. 6 LOAD, two bits each. */
    private static DriverBook kinds() {
        DriverBook x = new DriverBook();
        for (int kind = 0; kind < 7; kind++) {
            x.field(0, 2 * kind, 2, kind, 0);
        }
        return x;
    }

    private static void power() {
        DriverBook x = new DriverBook();
        due.is("no fields", x.power(), 0);
        x.field(0, 0, 4, Due.PLAIN, 3);
        x.field(0, 4, 2, Due.TAKEN, 2);
        x.field(0, 6, 2, Due.FLAG, 1);
        x.field(1, 0, 4, Due.HELD, 5);
        x.field(1, 4, 4, Due.PULSE, 0);
        x.law(0, 0, 0, 3);
        x.law(2, 3, 3, 9);
        x.act();
        x.act();
        x.step(0, Due.GET, 0, 0, 0);
        x.step(1, Due.SET, 2, 1, 0);
        x.handler(2, 1);
        x.locks(0);
        x.event(1, 3, 2);
        x.event(1, 1, 900);
        x.write(0, 9);
        x.write(1, 0x17);
        x.run(0);
        x.write(1, 0x17);
        due.is("timer ahead", x.peek(4, 2), 2);
        due.is("softs ahead", x.peek(1, 3), 3);
        due.is("result ahead", x.result(), 3);
        due.is("served ahead", x.count(5), 1);
        due.is("breaks ahead", x.breaks(0), 1);
        due.is("power", x.power(), 5);
        int[] values = {3, 2, 1, 5, 0};
        for (int i = 0; i < 5; i++) {
            due.is("value " + i, x.peek(i, 0), values[i]);
        }
        due.is("pending", x.peek(3, 1), 5);
        due.is("timer", x.peek(4, 2), 0);
        due.is("soft", x.peek(1, 3), 0);
        due.is("shadow 0", x.shadow(0), 3);
        due.is("shadow 1", x.shadow(1), 5);
        due.is("result", x.result(), 0);
        int[] counts = {4, 5, 2, 2, 0, 0, 0, 0, 0};
        for (int what = 0; what < counts.length; what++) {
            due.is("count " + what, x.count(what), counts[what]);
        }
        due.is("breaks", x.breaks(0), 0);
        due.is("first law", x.breaks(1), -1);
        due.is("handlers stay", x.handler(2, -1), 1);
        x.write(1, 1);
        due.is("no hits from before power", x.breaks(0), 0);
    }

    private static void event() {
        DriverBook x = kinds();
        x.wait(5);
        due.is("no such field", x.event(7, 0, 9), -1);
        due.is("no such field", x.event(-1, 0, 9), -1);
        due.is("v 4", x.event(1, 4, 9), -1);
        due.is("v -1", x.event(1, -1, 9), -1);
        due.is("tick 10000", x.event(1, 0, 10000), -1);
        due.is("tick MAX", x.event(1, 0, MAX), -1);
        due.is("NONE ahead of KIND", x.event(0, 4, 9), -1);
        due.is("NONE of the tick ahead of KIND", x.event(0, 0, 10000), -1);
        due.is("KIND ahead of LATE", x.event(0, 0, 5), -4);
        due.is("tick 5", x.event(1, 0, 5), -6);
        due.is("tick -1", x.event(1, 0, -1), -6);
        due.is("tick MIN", x.event(1, 0, MIN), -6);
        due.is("tick 6", x.event(1, 1, 6), 1);
        due.is("tick 9999", x.event(3, 1, 9999), 2);
        for (int i = 3; i <= 16; i++) {
            due.is("event " + i, x.event(2, 3, 9998), i);
        }
        due.is("FULL", x.event(2, 3, 9998), -3);
        due.is("LATE ahead of FULL", x.event(2, 3, 5), -6);
        due.is("16 to come", x.count(6), 16);
        x.wait(1);
        due.is("one came", x.count(6), 15);
        due.is("one more", x.event(2, 3, 9998), 16);
    }

    private static void eventKinds() {
        DriverBook x = kinds();
        int[] answers = {-4, 1, 2, 3, -4, -4, -4};
        for (int kind = 0; kind < 7; kind++) {
            due.is("event of kind " + kind, x.event(kind, 1, 1), answers[kind]);
        }
        x.event(1, 2, 2);
        x.event(2, 2, 2);
        x.event(3, 2, 2);
        x.wait(1);
        due.is("status", x.peek(1, 0), 1);
        due.is("flag", x.peek(2, 0), 1);
        due.is("taken", x.peek(3, 0), 1);
        x.wait(1);
        due.is("status becomes the event's", x.peek(1, 0), 2);
        due.is("flag gets bits besides", x.peek(2, 0), 3);
        due.is("taken gets bits besides", x.peek(3, 0), 3);
        due.is("none to come", x.count(6), 0);
        x.event(1, 0, 9);
        x.event(1, 3, 4);
        x.event(1, 1, 4);
        x.wait(2);
        due.is("the last told of a tick stays", x.peek(1, 0), 1);
        due.is("one is to come", x.count(6), 1);
        x.wait(5);
        due.is("the other", x.peek(1, 0), 0);
    }

    private static void eventsAndPulses() {
        DriverBook x = new DriverBook();
        x.field(0, 0, 1, Due.PULSE, 0);
        x.field(0, 1, 3, Due.STATUS, 0);
        x.done(0, 1);
        x.event(1, 2, 3);
        x.write(0, 1);
        x.wait(2);
        due.is("events come behind pulses", x.peek(1, 0), 2);
        due.is("pulse over", x.peek(0, 0), 0);
    }

    private static void runRefusals() {
        DriverBook x = kinds();
        due.is("run(0)", x.run(0), -1);
        x.act();
        due.is("run(1)", x.run(1), -1);
        due.is("run(-1)", x.run(-1), -1);
        due.is("empty", x.run(0), 0);
        due.is("now", x.count(4), 0);
        x.step(0, Due.PAUSE, -1, 9, 0);
        x.step(0, Due.PAUSE, -1, 2, 0);
        due.is("pauses", x.run(0), 11);
        due.is("pauses again", x.run(0), 11);
        due.is("now", x.count(4), 22);
    }

    private static void runWrites() {
        DriverBook x = new DriverBook();
        x.field(0, 0, 4, Due.PLAIN, 0);
        x.field(0, 4, 4, Due.PLAIN, 0);
        x.field(0, 8, 4, Due.PULSE, 0);
        x.act();
        x.step(0, Due.SET, 0, 9, 0);
        x.step(0, Due.SET, 1, 6, 0);
        x.step(0, Due.SET, 2, 5, 0);
        due.is("one write", x.run(0), 1);
        due.is("field 0", x.peek(0, 0), 9);
        due.is("field 1", x.peek(1, 0), 6);
        due.is("field 2", x.peek(2, 0), 5);
        due.is("timer", x.peek(2, 2), 2);
        due.is("shadow is of PLAIN and HELD", x.shadow(0), 0x69);
    }

    private static void runByAcc() {
        DriverBook x = new DriverBook();
        x.field(0, 0, 4, Due.PLAIN, 1);
        x.field(0, 4, 4, Due.PLAIN, 2);
        x.field(0, 8, 2, Due.FLAG, 3);
        x.field(0, 10, 2, Due.STATUS, 3);
        x.act();
        x.step(0, Due.SET, 0, 9, 0);
        x.write(0, 0x57);
        due.is("a write by hand leaves the shadow", x.shadow(0), 0x21);
        due.is("read and write", x.run(0), 2);
        due.is("set", x.peek(0, 0), 9);
        due.is("kept from the chip", x.peek(1, 0), 5);
        due.is("the flag isn't written back", x.peek(2, 0), 3);
        due.is("shadow", x.shadow(0), 0x59);
    }

    private static void runByShadow() {
        DriverBook x = new DriverBook();
        x.field(0, 0, 4, Due.PLAIN, 1);
        x.field(0, 4, 4, Due.PLAIN, 2);
        x.field(0, 8, 4, Due.HELD, 3);
        x.field(0, 12, 1, Due.LOAD, 0);
        x.act();
        x.step(0, Due.SET, 0, 9, 0);
        x.write(0, 0x457);
        due.is("one write", x.run(0), 1);
        due.is("set", x.peek(0, 0), 9);
        due.is("kept from the shadow", x.peek(1, 0), 2);
        due.is("pending from the shadow", x.peek(2, 1), 3);
        due.is("shadow", x.shadow(0), 0x329);
        x.bare(0);
        x.step(0, Due.SET, 2, 7, 0);
        x.step(0, Due.SET, 3, 1, 0);
        x.run(0);
        due.is("set and loaded", x.peek(2, 0), 7);
        due.is("shadow without LOAD", x.shadow(0), 0x729);
    }

    private static void runPolls() {
        DriverBook x = new DriverBook();
        x.field(0, 2, 3, Due.STATUS, 0);
        x.field(0, 6, 2, Due.TAKEN, 1);
        x.field(1, 0, 1, Due.PLAIN, 0);
        x.act();
        x.step(0, Due.AWAIT, 0, 5, 3);
        x.step(0, Due.SET, 2, 1, 0);
        due.is("TIMEOUT", x.run(0), -5);
        due.is("limit + 1 reads", x.count(4), 4);
        due.is("nothing behind it", x.peek(2, 0), 0);
        due.is("taken into the soft", x.peek(1, 3), 1);
        due.is("and away", x.peek(1, 0), 0);
        x.event(0, 4, 5);
        x.event(0, 5, 7);
        x.event(1, 2, 6);
        due.is("at the last read", x.run(0), 5);
        due.is("what is behind it", x.peek(2, 0), 1);
        due.is("softs grow", x.peek(1, 3), 3);
        due.is("at the first read", x.run(0), 2);
        x.bare(0);
        x.step(0, Due.AWAIT, 0, 1, 0);
        due.is("limit 0: one read", x.run(0), -5);
        due.is("now", x.count(4), 12);
    }

    private static void runPicks() {
        DriverBook x = new DriverBook();
        x.field(0, 0, 3, Due.PLAIN, 0);
        x.field(0, 3, 3, Due.STATUS, 6);
        x.field(0, 6, 3, Due.TAKEN, 1);
        x.field(0, 9, 3, Due.HELD, 4);
        x.act();
        x.act();
        x.step(0, Due.GET, 1, 0, 0);
        due.is("one read", x.run(0), 1);
        due.is("a status", x.result(), 6);
        due.is("the soft of another get", x.peek(2, 3), 1);
        x.event(2, 2, 2);
        x.step(1, Due.PAUSE, -1, 1, 0);
        x.step(1, Due.GET, 2, 0, 0);
        due.is("pause and read", x.run(1), 2);
        due.is("a taken: all that came", x.result(), 3);
        due.is("its soft is 0", x.peek(2, 3), 0);
        x.bare(0);
        x.step(0, Due.GET, 3, 0, 0);
        x.write(0, 5 << 9);
        x.run(0);
        due.is("a held: its value", x.result(), 4);
        x.bare(0);
        x.step(0, Due.GET, 3, 0, 0);
        x.step(0, Due.GET, 0, 0, 0);
        x.run(0);
        due.is("the last get", x.result(), 0);
    }

    private static void read() {
        DriverBook x = kinds();
        due.is("read(-1)", x.read(-1), -1);
        due.is("read(4)", x.read(4), -1);
        due.is("read(MAX)", x.read(MAX), -1);
        due.is("no tick", x.count(4), 0);
        due.is("an empty register", x.read(1), 0);
        due.is("a tick", x.count(4), 1);
        x.event(3, 2, 2);
        x.event(2, 1, 2);
        x.write(0, 3 + (3 << 8) + (1 << 10) + (3 << 12));
        due.is("values at their bits", x.read(0), 3 + (1 << 4) + (2 << 6) + (3 << 8) + (1 << 10));
        due.is("taken away", x.peek(3, 0), 0);
        due.is("softs get nothing by hand", x.peek(3, 3), 0);
        due.is("read again", x.read(0), 3 + (1 << 4) + (3 << 8) + (1 << 10));
        x.event(3, 1, 5);
        x.read(0);
        due.is("an event of the read's tick stays", x.peek(3, 0), 1);
    }

    private static void write() {
        DriverBook x = kinds();
        due.is("write(-1, 0)", x.write(-1, 0), -1);
        due.is("write(4, 0)", x.write(4, 0), -1);
        due.is("write(0, -1)", x.write(0, -1), -1);
        due.is("write(0, 65536)", x.write(0, 65536), -1);
        due.is("write(0, MIN)", x.write(0, MIN), -1);
        due.is("no tick", x.count(4), 0);
        x.event(1, 2, 1);
        x.event(2, 3, 1);
        x.event(3, 1, 1);
        due.is("write(3, 65535)", x.write(3, 65535), 1);
        due.is("another register", x.peek(0, 0), 0);
        due.is("write(0, ..)", x.write(0, 2 + (1 << 2) + (1 << 4) + (2 << 6) + (3 << 8) + (2 << 10)), 2);
        int[] values = {2, 2, 2, 1, 3, 0, 0};
        for (int i = 0; i < 7; i++) {
            due.is("value " + i, x.peek(i, 0), values[i]);
        }
        due.is("pending", x.peek(5, 1), 2);
        due.is("timer", x.peek(4, 2), 2);
        due.is("shadow", x.shadow(0), 0);
        x.write(0, 0);
        due.is("a pulse of 0 does nothing", x.peek(4, 0), 3);
        due.is("its timer goes on", x.peek(4, 2), 1);
        due.is("pending 0", x.peek(5, 1), 0);
        due.is("the flag stays", x.peek(2, 0), 2);
        due.is("write(0, 65535)", x.write(0, 65535), 4);
        due.is("pulsed anew", x.peek(4, 2), 2);
    }

    private static void load() {
        DriverBook x = new DriverBook();
        x.field(0, 0, 2, Due.HELD, 0);
        x.field(0, 2, 2, Due.LOAD, 0);
        x.field(0, 4, 2, Due.HELD, 0);
        x.field(1, 0, 2, Due.HELD, 1);
        x.write(1, 2);
        due.is("pending of register 1", x.peek(3, 1), 2);
        due.is("value of register 1", x.peek(3, 0), 1);
        x.write(0, 1 + (2 << 2) + (3 << 4));
        due.is("a lower number has this write's", x.peek(0, 0), 1);
        due.is("a higher number doesn't", x.peek(2, 0), 0);
        due.is("its pending has", x.peek(2, 1), 3);
        due.is("another register's", x.peek(3, 0), 2);
        due.is("a load's value is 0", x.peek(1, 0), 0);
        x.write(0, 0);
        due.is("no load", x.peek(0, 0), 1);
        x.write(0, 1 << 2);
        due.is("load", x.peek(0, 0), 0);
        due.is("a load reads as 0", x.read(0), 0);
    }

    private static void pulses() {
        DriverBook x = new DriverBook();
        x.field(0, 0, 2, Due.PULSE, 0);
        x.field(0, 2, 2, Due.FLAG, 0);
        x.field(0, 4, 2, Due.PULSE, 0);
        x.done(0, 1);
        x.done(2, 1);
        x.write(0, 2);
        x.write(0, 1 + (1 << 4));
        due.is("told anew", x.peek(0, 0), 1);
        due.is("its timer", x.peek(0, 2), 2);
        x.wait(1);
        due.is("not done", x.peek(1, 0), 0);
        x.wait(1);
        due.is("done", x.peek(1, 0), 3);
        due.is("timer 0", x.peek(0, 2), 0);
        due.is("value 0", x.peek(2, 0), 0);
        x.write(0, 3 << 2);
        due.is("cleared", x.peek(1, 0), 0);
        x.wait(9);
        due.is("once only", x.peek(1, 0), 0);
    }

    private static void waits() {
        DriverBook x = kinds();
        x.act();
        x.step(0, Due.SET, 2, 3, 0);
        x.handler(2, 0);
        x.event(2, 1, 1);
        due.is("wait(-1)", x.wait(-1), -1);
        due.is("wait(51)", x.wait(51), -1);
        due.is("wait(MIN)", x.wait(MIN), -1);
        due.is("wait(0)", x.wait(0), 0);
        due.is("wait(50)", x.wait(50), 50);
        due.is("no handler runs", x.count(5), 0);
        due.is("the flag", x.peek(2, 0), 1);
        due.is("wait(3)", x.wait(3), 53);
    }

    private static void peek() {
        DriverBook x = kinds();
        int[][] answers = {
            {0, -4, -4, -4}, {0, -4, -4, -4}, {0, -4, -4, -4}, {0, -4, -4, 0}, {0, -4, 0, -4}, {0, 0, -4, -4}, {0, -4, -4, -4},
        };
        for (int kind = 0; kind < 7; kind++) {
            for (int what = 0; what < 4; what++) {
                due.is("peek(" + kind + ", " + what + ")", x.peek(kind, what), answers[kind][what]);
            }
            due.is("what 4", x.peek(kind, 4), -1);
            due.is("what -1", x.peek(kind, -1), -1);
        }
        due.is("peek(7, 0)", x.peek(7, 0), -1);
        due.is("peek(-1, 0)", x.peek(-1, 0), -1);
        due.is("peek(MAX, MAX)", x.peek(MAX, MAX), -1);
    }

    private static void shadow() {
        DriverBook x = new DriverBook();
        x.field(1, 2, 2, Due.PLAIN, 2);
        x.field(1, 4, 2, Due.STATUS, 3);
        x.field(1, 6, 2, Due.HELD, 1);
        due.is("resets of PLAIN and HELD", x.shadow(1), (2 << 2) + (1 << 6));
        due.is("shadow(0)", x.shadow(0), 0);
        due.is("shadow(3)", x.shadow(3), 0);
        due.is("shadow(4)", x.shadow(4), -1);
        due.is("shadow(-1)", x.shadow(-1), -1);
    }

    private static void shadowBehindPower() {
        DriverBook x = new DriverBook();
        x.field(0, 0, 4, Due.PLAIN, 1);
        x.act();
        x.step(0, Due.SET, 0, 14, 0);
        x.run(0);
        due.is("written", x.shadow(0), 14);
        x.power();
        due.is("power", x.shadow(0), 1);
        x.run(0);
        x.begin(1);
        due.is("begin", x.shadow(0), 0);
        x.field(0, 0, 4, Due.FLAG, 15);
        x.act();
        x.step(0, Due.SET, 0, 6, 0);
        x.run(0);
        due.is("a flag isn't in it", x.shadow(0), 0);
        due.is("the flag's bits", x.peek(0, 0), 9);
    }

    private static void doneOfFieldZero() {
        DriverBook x = new DriverBook();
        x.field(0, 0, 3, Due.STATUS, 0);
        x.field(0, 3, 1, Due.PULSE, 0);
        x.done(1, 0);
        x.write(0, 8);
        x.wait(2);
        due.is("field 0 is done", x.peek(0, 0), 7);
    }

    private static void lawsOfValues() {
        DriverBook x = new DriverBook();
        x.field(0, 0, 2, Due.PLAIN, 1);
        x.field(1, 0, 2, Due.PLAIN, 2);
        x.law(0, 0, 1, 2);
        x.write(0, 1);
        due.is("no hit", x.breaks(0), 0);
        x.write(0, 2);
        due.is("while it is 2", x.breaks(0), 1);
        due.is("it is done all the same", x.peek(0, 0), 2);
        x.write(1, 3);
        due.is("a write of g", x.breaks(0), 1);
        x.write(0, 0);
        due.is("while it is 3", x.breaks(0), 1);
        x.law(1, 0, 1, 2);
        x.write(0, 1);
        due.is("while it isn't 2", x.breaks(0), 2);
        due.is("the first one's law", x.breaks(1), 0);
        due.is("the first one's now", x.breaks(2), 1);
        x.write(1, 2);
        x.power();
        x.law(0, 0, 0, 1);
        x.write(0, 2);
        due.is("the value ahead of the write", x.breaks(0), 2);
        x.write(0, 1);
        due.is("not the one behind it", x.breaks(0), 3);
    }

    private static void lawsOfTime() {
        DriverBook x = new DriverBook();
        x.field(0, 0, 2, Due.PLAIN, 0);
        x.field(1, 0, 2, Due.FLAG, 0);
        x.law(2, 0, 1, 3);
        x.write(0, 1);
        due.is("g was never hit", x.breaks(0), 0);
        x.write(1, 1);
        x.wait(1);
        x.write(0, 2);
        due.is("2 above", x.breaks(0), 1);
        due.is("now of it", x.breaks(2), 3);
        x.write(1, 1);
        x.wait(2);
        x.write(0, 1);
        due.is("3 above", x.breaks(0), 1);
        x.write(1, 1);
        x.write(1, 0);
        x.wait(2);
        x.write(0, 2);
        due.is("a write that doesn't hit g", x.breaks(0), 1);
        x.begin(1);
        x.field(0, 0, 2, Due.PLAIN, 0);
        x.law(2, 0, 0, 2);
        x.law(2, 0, 0, 1);
        x.law(2, 0, 0, 0);
        x.write(0, 1);
        due.is("a write isn't ahead of itself", x.breaks(0), 0);
        x.write(0, 2);
        due.is("1 above", x.breaks(0), 1);
        due.is("by law 0", x.breaks(1), 0);
        x.begin(1);
        x.field(0, 0, 2, Due.PLAIN, 0);
        x.field(0, 2, 2, Due.PLAIN, 0);
        x.law(2, 0, 1, 255);
        x.write(0, 5);
        due.is("both in one write", x.breaks(0), 0);
        x.write(0, 6);
        due.is("f alone, behind", x.breaks(0), 1);
    }

    private static void hits() {
        DriverBook x = kinds();
        for (int kind = 0; kind < 7; kind++) {
            x.law(1, kind, 0, 99);
        }
        x.event(1, 2, 1);
        x.event(2, 2, 1);
        x.event(3, 2, 1);
        x.write(0, 0);
        due.is("nothing is hit", x.breaks(0), 0);
        x.write(0, 1 << 4);
        due.is("a flag is hit by any bit", x.breaks(0), 1);
        x.write(0, (1 << 2) + (1 << 6));
        due.is("status and taken never", x.breaks(0), 1);
        x.write(0, 1 << 8);
        x.write(0, 1 << 8);
        due.is("a pulse each time", x.breaks(0), 3);
        x.write(0, 1 << 12);
        due.is("a load", x.breaks(0), 4);
        x.write(0, 1 << 10);
        due.is("a held against its pending", x.breaks(0), 5);
        x.write(0, 1 << 10);
        due.is("a held's pending again", x.breaks(0), 5);
        x.write(0, (1 << 10) + 2);
        x.write(0, (1 << 10) + 2);
        due.is("a plain against its value", x.breaks(0), 6);
        x.write(0, (2 << 10) + (1 << 12) + 1 + (1 << 4) + (1 << 8));
        due.is("five in one write", x.breaks(0), 11);
        due.is("the first of all", x.breaks(1), 2);
        due.is("its now", x.breaks(2), 1);
    }

    private static void lawsOfLoad() {
        DriverBook x = new DriverBook();
        x.field(0, 0, 2, Due.HELD, 0);
        x.field(1, 0, 1, Due.LOAD, 0);
        x.law(0, 1, 0, 3);
        x.write(0, 3);
        x.write(1, 1);
        due.is("g's value isn't its pending", x.breaks(0), 0);
        x.write(1, 1);
        due.is("g's value now", x.breaks(0), 1);
    }

    private static void breaks() {
        DriverBook x = new DriverBook();
        due.is("breaks(0)", x.breaks(0), 0);
        due.is("breaks(1)", x.breaks(1), -1);
        due.is("breaks(2)", x.breaks(2), -1);
        x.field(0, 0, 2, Due.PLAIN, 0);
        x.law(0, 0, 0, 3);
        x.law(0, 0, 0, 0);
        x.law(1, 0, 0, 1);
        x.wait(6);
        x.write(0, 1);
        due.is("two laws by one write", x.breaks(0), 2);
        due.is("the first by number", x.breaks(1), 1);
        due.is("its now", x.breaks(2), 6);
        due.is("breaks(3)", x.breaks(3), -1);
        due.is("breaks(-1)", x.breaks(-1), -1);
    }
}
