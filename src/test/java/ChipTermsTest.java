/** Part I of the terms, the chip: a test for each sentence that names a bound, an order or an edge. */
public final class ChipTermsTest {
    private static final int NONE = -1;
    private static final Due due = new Due();
    private static final Twins twins = new Twins(due);

    public static void main(String[] args) {
        aNewObject();
        registersUpToR();
        registersHaveSixteenBits();
        fieldsAreNumberedAsTold();
        beginForgetsFields();
        widthsBoundValues();
        pulsesAtFirst();
        nowAtFirst();
        eachTickIsOneMore();
        timersFallToZero();
        timersAtZeroStay();
        allBitsOfDoneBecomeOne();
        oneDoneOfManyPulses();
        eventsOfThisTickAlone();
        eventsInTheOrderTold();
        eventsOfNothing();
        eventsBehindPulses();
        readHasAllButLoads();
        readTakesTaken();
        tickBehindRead();
        tickBehindWrite();
        writeOfPlain();
        writeOfStatusAndTaken();
        writeOfFlag();
        writeOfPulse();
        writeOfHeld();
        writeOfLoad();
        loadByPendingOfThen();
        due.end("ChipTermsTest");
    }

    /** Promise 1: "As told in I to V": nothing is told yet, and begin(4) or a POWER brings nothing else. */
    private static void aNewObject() {
        twins.leaves("begin(4) on a new object", DriverBook::new, 4, x -> x.begin(4));
        twins.leaves("power() on a new object", DriverBook::new, 0, DriverBook::power);
        DriverBook x = new DriverBook();
        int[] counts = {4, 0, 0, 0, 0, 0, 0, 1, 0};
        for (int what = 0; what < 9; what++) {
            due.is("count " + what, x.count(what), counts[what]);
        }
        due.is("RESULT", x.result(), 0);
        due.is("BREAKS", x.breaks(0), 0);
        due.is("no first BREAK", x.breaks(1), NONE);
        due.is("no WALK", x.why(0), NONE);
        twins.leaves("begin(4) behind all sorts of calls", () -> {
            DriverBook y = Scenes.full();
            y.run(0);
            y.walk(0, 1);
            y.begin(4);
            for (int d = 0; d < 6; d++) {
                y.clear(d);
            }
            return y;
        }, 4, y -> y.begin(4));
    }

    /** "REGISTERS 0 .. R - 1 (R 1 .. 8; 4 at first)". */
    private static void registersUpToR() {
        for (int r = 0; r <= 8; r++) {
            DriverBook x = new DriverBook();
            int last = 3;
            if (r > 0) {
                x.begin(r);
                last = r - 1;
            }
            due.is("the last one", x.field(last, 0, 4, Due.PLAIN, 5), 0);
            due.is("none behind it", x.field(last + 1, 0, 4, Due.PLAIN, 5), NONE);
            due.is("its write", x.write(last, 9), 1);
            due.is("no write behind it", x.write(last + 1, 9), NONE);
            due.is("its read", x.read(last), 9);
            due.is("no read behind it", x.read(last + 1), NONE);
            due.is("its shadow", x.shadow(last), 5);
            due.is("no shadow behind it", x.shadow(last + 1), NONE);
        }
    }

    /** "of 16 bits". */
    private static void registersHaveSixteenBits() {
        DriverBook x = new DriverBook();
        for (int bit = 0; bit < 16; bit++) {
            x.field(0, bit, 1, Due.PLAIN, 0);
        }
        for (int bit = 0; bit < 16; bit++) {
            x.write(0, 1 << bit);
            due.is("bit " + bit, x.peek(bit, 0), 1);
            due.is("alone", x.read(0), 1 << bit);
        }
        due.is("all of them", x.write(0, 65535), 33);
        due.is("all of them", x.read(0), 65535);
    }

    /** "FIELDS 0 .. 23, numbered as they are told". */
    private static void fieldsAreNumberedAsTold() {
        DriverBook x = new DriverBook();
        for (int i = 0; i < 24; i++) {
            // from the highest bit down: the bits don't number them
            due.is("field", x.field(3 - i / 8, 15 - 2 * (i % 8), 1, Due.PLAIN, i % 2), i);
        }
        for (int i = 0; i < 24; i++) {
            due.is("its value", x.peek(i, 0), i % 2);
        }
        due.is("no 24", x.peek(24, 0), NONE);
    }

    /** Promise 2: "No FIELDS": what a bit was ahead of begin() is nothing behind it. */
    private static void beginForgetsFields() {
        DriverBook x = new DriverBook();
        x.field(0, 0, 8, Due.PLAIN, 255);
        x.field(0, 8, 8, Due.HELD, 255);
        x.field(1, 0, 1, Due.PULSE, 0);
        x.begin(1);
        due.is("its SHADOW", x.shadow(0), 0);
        due.is("its READ", x.read(0), 0);
        x.field(0, 0, 8, Due.FLAG, 255);
        x.field(0, 8, 8, Due.STATUS, 255);
        x.act();
        x.step(0, Due.SET, 0, 255, 0);
        due.is("a WRITE", x.run(0), 1);
        due.is("its SHADOW has no bits of FLAG and STATUS", x.shadow(0), 0);
        due.is("the FLAG", x.peek(0, 0), 0);
        due.is("the STATUS", x.peek(1, 0), 255);
        due.is("no third FIELD", x.peek(2, 0), NONE);
    }

    /** "a width (1 .. 8)", "a value (a number of its width)". */
    private static void widthsBoundValues() {
        for (int width = 1; width <= 8; width++) {
            for (int low = 0; low + width <= 16; low++) {
                DriverBook x = new DriverBook();
                int most = (1 << width) - 1;
                x.field(1, low, width, Due.PLAIN, most);
                due.is("its reset", x.read(1), most << low);
                x.write(1, 65535);
                due.is("its largest", x.peek(0, 0), most);
                due.is("its bits alone", x.read(1), most << low);
                x.write(1, 65535 & ~(most << low));
                due.is("no bit beside it", x.peek(0, 0), 0);
            }
        }
    }

    /** "a PERIOD (1 .. 9; 3 at first) and may have a DONE field (..; none at first)". */
    private static void pulsesAtFirst() {
        DriverBook x = new DriverBook();
        x.field(0, 0, 1, Due.STATUS, 0);
        x.field(0, 1, 1, Due.PULSE, 0);
        x.write(0, 2);
        due.is("3, and a TICK", x.peek(1, 2), 2);
        x.wait(9);
        due.is("no DONE field", x.peek(0, 0), 0);
        due.is("the DONE field it had", x.done(1, -1), -1);
        due.is("the PERIOD it had", x.period(1, 3), 3);
        x.begin(4);
        x.field(0, 0, 1, Due.PULSE, 0);
        due.is("behind begin() too", x.period(0, 9), 3);
    }

    /** "NOW is the tick (0 at first)." */
    private static void nowAtFirst() {
        DriverBook x = new DriverBook();
        due.is("0", x.count(4), 0);
        due.is("wait(0)", x.wait(0), 0);
        due.is("image", x.image(0), 0);
    }

    /** "NOW becomes one more". */
    private static void eachTickIsOneMore() {
        DriverBook x = Scenes.kinds();
        due.is("a WRITE", x.write(0, 0), 1);
        x.read(0);
        due.is("a READ", x.count(4), 2);
        due.is("a WRITE of an empty REGISTER", x.write(3, 0), 3);
        x.read(3);
        due.is("a READ of an empty REGISTER", x.count(4), 4);
        due.is("a TICK", x.wait(1), 5);
        due.is("50 TICKS", x.wait(50), 55);
    }

    /** "it falls by 1; if it is 0 then, its value becomes 0": for each PERIOD. */
    private static void timersFallToZero() {
        for (int period = 1; period <= 9; period++) {
            DriverBook x = new DriverBook();
            x.field(0, 3, 2, Due.PULSE, 0);
            x.field(0, 5, 2, Due.STATUS, 0);
            x.period(0, period);
            x.done(0, 1);
            x.write(0, 2 << 3);
            for (int left = period - 1; left > 0; left--) {
                due.is("TIMER", x.peek(0, 2), left);
                due.is("its value while it runs", x.peek(0, 0), 2);
                due.is("DONE isn't yet", x.peek(1, 0), 0);
                x.wait(1);
            }
            due.is("TIMER at its end", x.peek(0, 2), 0);
            due.is("its value at its end", x.peek(0, 0), 0);
            due.is("DONE", x.peek(1, 0), 3);
            due.is("NOW", x.count(4), period);
        }
    }

    /** "whose TIMER is above 0": one that is 0 does nothing any more. */
    private static void timersAtZeroStay() {
        DriverBook x = new DriverBook();
        x.field(0, 0, 1, Due.PULSE, 0);
        x.field(0, 1, 2, Due.FLAG, 0);
        x.period(0, 1);
        x.done(0, 1);
        x.wait(5);
        due.is("one that was never pulsed", x.peek(1, 0), 0);
        x.write(0, 1);
        due.is("DONE", x.peek(1, 0), 3);
        x.write(0, 6);
        for (int k = 0; k < 12; k++) {
            x.wait(1);
            due.is("not again", x.peek(1, 0), 0);
            due.is("TIMER", x.peek(0, 2), 0);
        }
    }

    /** "all bits of its DONE field become 1": each width, both kinds, from any value. */
    private static void allBitsOfDoneBecomeOne() {
        for (int kind : new int[] {Due.STATUS, Due.FLAG}) {
            for (int width = 1; width <= 8; width++) {
                DriverBook x = new DriverBook();
                x.field(0, 15, 1, Due.PULSE, 0);
                x.field(1, 4, width, kind, width > 1 ? 2 : 0);
                x.field(1, 12, 1, kind, 0);
                x.done(0, 1);
                x.write(0, 0x8000);
                x.wait(2);
                due.is("all bits", x.peek(1, 0), (1 << width) - 1);
                due.is("and no other FIELD's", x.peek(2, 0), 0);
            }
        }
    }

    /** "for each PULSE": also two that end in one TICK, or have one DONE field. */
    private static void oneDoneOfManyPulses() {
        DriverBook x = new DriverBook();
        for (int i = 0; i < 3; i++) {
            x.field(0, i, 1, Due.PULSE, 0);
        }
        x.field(1, 0, 2, Due.FLAG, 0);
        x.field(1, 2, 2, Due.STATUS, 0);
        x.done(0, 3);
        x.done(1, 4);
        x.done(2, 3);
        x.period(2, 5);
        x.write(0, 7);
        x.wait(2);
        due.is("the first", x.peek(3, 0), 3);
        due.is("the second in the same TICK", x.peek(4, 0), 3);
        due.is("the third runs", x.peek(2, 2), 2);
        x.write(1, 3);
        due.is("cleared", x.peek(3, 0), 0);
        x.wait(1);
        due.is("the third ends in the same DONE field", x.peek(3, 0), 3);
    }

    /** "for the EVENTS of this tick". */
    private static void eventsOfThisTickAlone() {
        DriverBook x = Scenes.kinds();
        x.event(1, 3, 4);
        x.event(2, 1, 3);
        x.event(2, 2, 5);
        for (int now = 1; now <= 6; now++) {
            x.wait(1);
            due.is("STATUS at " + now, x.peek(1, 0), now < 4 ? 0 : 3);
            due.is("FLAG at " + now, x.peek(2, 0), now < 3 ? 0 : now < 5 ? 1 : 3);
            due.is("to come at " + now, x.count(6), now < 3 ? 3 : now < 4 ? 2 : now < 5 ? 1 : 0);
        }
    }

    /** "in the order told": the last one that is told of a STATUS stays. */
    private static void eventsInTheOrderTold() {
        DriverBook x = Scenes.kinds();
        int[] told = {3, 1, 2};
        for (int v : told) {
            x.event(1, v, 2);
            x.event(1, 3 - v, 1);
        }
        x.wait(1);
        due.is("the last of tick 1", x.peek(1, 0), 1);
        x.wait(1);
        due.is("the last of tick 2", x.peek(1, 0), 2);
        DriverBook y = Scenes.kinds();
        for (int k = 0; k < 16; k++) {
            y.event(1, k % 4, 1);
        }
        y.wait(1);
        due.is("the last of sixteen", y.peek(1, 0), 3);
        due.is("none are to come", y.count(6), 0);
    }

    /** "the value of a STATUS becomes the EVENT's, that of a FLAG or TAKEN gets the EVENT's bits besides": also of 0. */
    private static void eventsOfNothing() {
        DriverBook x = Scenes.kinds();
        for (int kind = 1; kind <= 3; kind++) {
            x.event(kind, 2, 1);
            x.event(kind, 0, 2);
            x.event(kind, 1, 3);
        }
        x.wait(1);
        x.wait(1);
        due.is("STATUS", x.peek(1, 0), 0);
        due.is("FLAG", x.peek(2, 0), 2);
        due.is("TAKEN", x.peek(3, 0), 2);
        x.wait(1);
        due.is("STATUS", x.peek(1, 0), 1);
        due.is("FLAG", x.peek(2, 0), 3);
        due.is("TAKEN", x.peek(3, 0), 3);
        due.is("SOFTS get nothing by an EVENT", x.peek(3, 3), 0);
    }

    /** "then, for the EVENTS": behind the PULSES' ends of the same TICK. */
    private static void eventsBehindPulses() {
        for (int kind : new int[] {Due.STATUS, Due.FLAG}) {
            for (int v = 0; v < 4; v++) {
                DriverBook x = new DriverBook();
                x.field(0, 0, 2, kind, 0);
                x.field(0, 2, 1, Due.PULSE, 0);
                x.done(1, 0);
                x.event(0, v, 3);
                x.write(0, 4);
                x.wait(2);
                due.is("an EVENT of " + v, x.peek(0, 0), kind == Due.STATUS ? v : 3);
            }
        }
    }

    /** "each of its FIELDS' values at its bits (a LOAD's is always 0), all other bits 0". */
    private static void readHasAllButLoads() {
        DriverBook x = new DriverBook();
        due.is("an empty REGISTER", x.read(0), 0);
        x.field(0, 1, 1, Due.PLAIN, 1);
        x.field(0, 3, 1, Due.STATUS, 1);
        x.field(0, 5, 1, Due.FLAG, 1);
        x.field(0, 7, 1, Due.TAKEN, 1);
        x.field(0, 9, 1, Due.PULSE, 0);
        x.field(0, 11, 1, Due.HELD, 1);
        x.field(0, 13, 1, Due.LOAD, 0);
        x.field(1, 0, 8, Due.PLAIN, 255);
        x.write(0, 2 + (1 << 9) + (1 << 13) + (1 << 15));
        due.is("all but the LOAD and the bits between", x.read(0), 2 + 8 + 32 + 128 + (1 << 9));
        due.is("a HELD's is its value, not its PENDING", x.peek(5, 1), 0);
        due.is("a LOAD's value", x.peek(6, 0), 0);
        x.write(0, 65535 & ~(1 << 13));
        due.is("PENDING", x.peek(5, 1), 1);
        due.is("it isn't read", x.read(0), 2 + 8 + (1 << 9));
    }

    /** "the TAKEN ones in it become 0 then": those of this REGISTER alone, all of them. */
    private static void readTakesTaken() {
        DriverBook x = new DriverBook();
        x.field(0, 0, 8, Due.TAKEN, 255);
        x.field(0, 8, 8, Due.TAKEN, 129);
        x.field(1, 0, 8, Due.TAKEN, 77);
        due.is("both", x.read(0), 255 + (129 << 8));
        due.is("the first is 0", x.peek(0, 0), 0);
        due.is("the second is 0", x.peek(1, 0), 0);
        due.is("another REGISTER's stays", x.peek(2, 0), 77);
        due.is("none are left", x.read(0), 0);
        due.is("another REGISTER's", x.read(1), 77);
    }

    /** "then a TICK passes": what comes with a READ's TICK isn't in its number, and isn't taken. */
    private static void tickBehindRead() {
        DriverBook x = Scenes.kinds();
        x.event(1, 2, 1);
        x.event(3, 1, 1);
        due.is("the number of before", x.read(0), 0);
        due.is("a STATUS of the TICK", x.peek(1, 0), 2);
        due.is("a TAKEN of the TICK", x.peek(3, 0), 1);
        due.is("the next READ has them", x.read(0), (2 << 2) + (1 << 6));
    }

    /** "then a TICK passes": what comes with a WRITE's TICK comes behind what the WRITE did. */
    private static void tickBehindWrite() {
        DriverBook x = Scenes.kinds();
        x.event(2, 1, 1);
        x.event(2, 3, 2);
        x.wait(1);
        x.write(0, 1 << 4);
        due.is("cleared, and set by the TICK", x.peek(2, 0), 3);
        DriverBook y = new DriverBook();
        y.field(0, 0, 2, Due.PULSE, 0);
        y.field(0, 2, 2, Due.FLAG, 3);
        y.period(0, 1);
        y.done(0, 1);
        y.write(0, 1 + (3 << 2));
        due.is("a PERIOD of 1 is DONE in the WRITE's own TICK", y.peek(1, 0), 3);
        due.is("its value", y.peek(0, 0), 0);
    }

    /** "PLAIN: the value becomes b": 0 and its largest. */
    private static void writeOfPlain() {
        DriverBook x = new DriverBook();
        x.field(0, 4, 8, Due.PLAIN, 77);
        x.write(0, 0xff0);
        due.is("its largest", x.peek(0, 0), 255);
        x.write(0, 0xf00f);
        due.is("0", x.peek(0, 0), 0);
        x.write(1, 0xffff);
        due.is("a WRITE of another REGISTER", x.peek(0, 0), 0);
    }

    /** "STATUS, TAKEN: nothing". */
    private static void writeOfStatusAndTaken() {
        for (int v = 0; v < 4; v++) {
            DriverBook x = new DriverBook();
            x.field(0, 0, 2, Due.STATUS, v);
            x.field(0, 2, 2, Due.TAKEN, v);
            for (int b = 0; b < 4; b++) {
                x.write(0, 5 * b);
                due.is("STATUS", x.peek(0, 0), v);
                due.is("TAKEN", x.peek(1, 0), v);
                due.is("SOFT", x.peek(1, 3), 0);
            }
        }
    }

    /** "FLAG: its bits that are 1 in b become 0". */
    private static void writeOfFlag() {
        for (int v = 0; v < 4; v++) {
            for (int b = 0; b < 4; b++) {
                DriverBook x = new DriverBook();
                x.field(0, 14, 2, Due.FLAG, v);
                x.write(0, b << 14);
                due.is("FLAG " + v + " by " + b, x.peek(0, 0), v & ~b);
            }
        }
    }

    /** "PULSE: if b isn't 0, the value becomes b, TIMER the PERIOD". */
    private static void writeOfPulse() {
        DriverBook x = new DriverBook();
        x.field(0, 0, 8, Due.PULSE, 0);
        x.period(0, 4);
        x.write(0, 0);
        due.is("0 does nothing", x.peek(0, 2), 0);
        x.write(0, 255);
        due.is("its largest", x.peek(0, 0), 255);
        due.is("TIMER", x.peek(0, 2), 3);
        x.write(0, 0);
        due.is("0 leaves the value", x.peek(0, 0), 255);
        due.is("0 leaves the TIMER", x.peek(0, 2), 2);
        x.write(0, 128);
        due.is("another number", x.peek(0, 0), 128);
        due.is("TIMER anew", x.peek(0, 2), 3);
        x.wait(2);
        due.is("still", x.peek(0, 0), 128);
        x.write(0, 1);
        due.is("anew ahead of the TICK that would end it", x.peek(0, 0), 1);
        due.is("TIMER anew", x.peek(0, 2), 3);
    }

    /** "HELD: PENDING becomes b": 0 and its largest; the value stays. */
    private static void writeOfHeld() {
        DriverBook x = new DriverBook();
        x.field(0, 8, 8, Due.HELD, 77);
        due.is("PENDING at first", x.peek(0, 1), 77);
        x.write(0, 0xffff);
        due.is("its largest", x.peek(0, 1), 255);
        due.is("the value", x.peek(0, 0), 77);
        x.write(0, 0xff);
        due.is("0", x.peek(0, 1), 0);
        due.is("the value", x.peek(0, 0), 77);
    }

    /** "LOAD: if b isn't 0, each HELD field of the chip gets its PENDING as its value". */
    private static void writeOfLoad() {
        for (int b = 0; b < 256; b += b < 2 ? 1 : b - 1) {
            DriverBook x = new DriverBook();
            x.field(0, 0, 8, Due.LOAD, 0);
            x.field(1, 0, 4, Due.HELD, 1);
            x.field(2, 0, 4, Due.HELD, 2);
            x.field(3, 0, 4, Due.PLAIN, 3);
            x.write(1, 9);
            x.write(2, 10);
            x.write(0, b);
            due.is("REGISTER 1, b " + b, x.peek(1, 0), b == 0 ? 1 : 9);
            due.is("REGISTER 2, b " + b, x.peek(2, 0), b == 0 ? 2 : 10);
            due.is("a PLAIN one", x.peek(3, 0), 3);
            due.is("PENDING stays", x.peek(1, 1), 9);
            due.is("the LOAD's value", x.peek(0, 0), 0);
        }
        twins.leaves("a LOAD without HELD fields", () -> {
            DriverBook x = new DriverBook();
            x.field(0, 0, 1, Due.LOAD, 0);
            x.field(0, 1, 1, Due.PLAIN, 0);
            x.write(0, 1);
            return x;
        }, 1, x -> x.wait(0));
    }

    /** "(by the PENDING of then: HELD fields that have a lower number in this REGISTER have theirs of this WRITE already)". */
    private static void loadByPendingOfThen() {
        DriverBook x = new DriverBook();
        // the numbers make the order, not the bits: the lower number stands above the LOAD, the higher one below it
        x.field(0, 8, 4, Due.HELD, 1);
        x.field(0, 4, 4, Due.LOAD, 0);
        x.field(0, 0, 4, Due.HELD, 2);
        x.field(1, 0, 4, Due.HELD, 3);
        x.write(0, 0x605);
        x.write(1, 7);
        x.write(0, 0xa1b);
        due.is("a lower number: of this WRITE", x.peek(0, 0), 10);
        due.is("a higher number: of before", x.peek(2, 0), 5);
        due.is("its PENDING: of this WRITE", x.peek(2, 1), 11);
        due.is("another REGISTER's", x.peek(3, 0), 7);
        x.write(0, 0x010);
        due.is("the lower one again", x.peek(0, 0), 0);
        due.is("the higher one now", x.peek(2, 0), 11);
        DriverBook y = new DriverBook();
        // two LOADS around a HELD: the second loads it once more
        y.field(0, 0, 1, Due.LOAD, 0);
        y.field(0, 1, 2, Due.HELD, 0);
        y.field(0, 3, 1, Due.LOAD, 0);
        y.write(0, 1 + (3 << 1));
        due.is("the first LOAD alone", y.peek(1, 0), 0);
        y.write(0, (2 << 1) + 8);
        due.is("the second LOAD alone", y.peek(1, 0), 2);
    }
}
