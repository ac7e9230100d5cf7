/** Promises 1 to 6: a new object, begin, field, period, done, law. */
public final class BookTest {
    private static final int MIN = Integer.MIN_VALUE, MAX = Integer.MAX_VALUE;
    private static final Due due = new Due();

    public static void main(String[] args) {
        newObject();
        begin();
        fieldRefusals();
        fieldEdges();
        fieldOverlapAndFull();
        fieldPowers();
        period();
        done();
        law();
        due.end("BookTest");
    }

    private static void newObject() {
        DriverBook x = new DriverBook();
        int[] counts = {4, 0, 0, 0, 0, 0, 0, 1, 0};
        for (int what = 0; what < counts.length; what++) {
            due.is("new: count " + what, x.count(what), counts[what]);
        }
        due.is("new: result", x.result(), 0);
        due.is("new: breaks", x.breaks(0), 0);
        due.is("new: first law", x.breaks(1), -1);
        due.is("new: why", x.why(0), -1);
        due.is("new: read", x.read(3), 0);
        due.is("new: read of none", x.read(4), -1);
        for (int d = 0; d < 6; d++) {
            due.is("new: tape " + d, x.clear(d), 0);
        }
    }

    private static void begin() {
        DriverBook x = new DriverBook();
        x.field(3, 0, 1, Due.FLAG, 1);
        x.law(0, 0, 0, 0);
        x.act();
        x.step(0, Due.PAUSE, -1, 4, 0);
        x.handler(0, 0);
        x.locks(0);
        x.event(0, 1, 50);
        x.tape(0, 2, 7);
        x.put(0, 3, 9);
        x.image(1);
        x.put(5, 0, 0);
        x.run(0);
        int[] refused = {0, 9, -1, MIN, MAX};
        for (int r : refused) {
            due.is("begin(" + r + ")", x.begin(r), -1);
        }
        due.is("refused begin leaves fields", x.count(1), 1);
        due.is("refused begin leaves host refusals", x.count(8), 1);
        due.is("refused begin leaves locks", x.count(7), 0);
        due.is("begin(8)", x.begin(8), 8);
        int[] counts = {8, 0, 0, 0, 0, 0, 0, 1, 0};
        for (int what = 0; what < counts.length; what++) {
            due.is("begun: count " + what, x.count(what), counts[what]);
        }
        due.is("tapes stay", x.at(0, 3), 9);
        due.is("images stay", x.clear(1), 5);
        due.is("register 7", x.field(7, 15, 1, Due.FLAG, 0), 0);
        due.is("no handler from before", x.handler(0, -1), -1);
        due.is("begin(1)", x.begin(1), 1);
        due.is("register 1 of 1", x.field(1, 0, 1, 0, 0), -1);
        due.is("acts have no steps from before", x.act(), 0);
        due.is("bare of a new act", x.bare(0), 0);
    }

    private static void fieldRefusals() {
        DriverBook x = new DriverBook();
        int[][] refused = {
            {-1, 0, 1, 0, 0}, {4, 0, 1, 0, 0}, {MIN, 0, 1, 0, 0}, {MAX, 0, 1, 0, 0},
            {0, -1, 1, 0, 0}, {0, MIN, 8, 0, 0}, {0, MAX, 8, 0, 0}, {0, 16, 1, 0, 0},
            {0, 0, 0, 0, 0}, {0, 0, 9, 0, 0}, {0, 0, MIN, 0, 0}, {0, 1, MAX, 0, 0}, {0, 9, 8, 0, 0},
            {0, 0, 1, -1, 0}, {0, 0, 1, 7, 0}, {0, 0, 1, MAX, 0},
            {0, 0, 1, 0, 2}, {0, 0, 8, 0, 256}, {0, 0, 3, 0, -1}, {0, 0, 8, 0, MIN}, {0, 0, 8, 0, MAX},
            {0, 0, 2, 4, 1}, {0, 0, 2, 6, 3},
        };
        for (int[] a : refused) {
            due.is("field(" + a[0] + ", " + a[1] + ", " + a[2] + ", " + a[3] + ", " + a[4] + ")",
                    x.field(a[0], a[1], a[2], a[3], a[4]), -1);
        }
        due.is("no field was told", x.count(1), 0);
        x.field(0, 0, 8, 0, 0);
        due.is("NONE ahead of OVERLAP", x.field(0, 0, 2, 4, 1), -1);
        due.is("OVERLAP", x.field(0, 7, 1, 4, 0), -2);
        due.is("OVERLAP of the same register only", x.field(1, 7, 1, 4, 0), 1);
    }

    private static void fieldEdges() {
        DriverBook x = new DriverBook();
        due.is("width 8 at 8", x.field(0, 8, 8, Due.PLAIN, 255), 0);
        due.is("width 1 at 0", x.field(0, 0, 1, Due.STATUS, 1), 1);
        due.is("beside it", x.field(0, 1, 7, Due.FLAG, 127), 2);
        due.is("taken", x.field(3, 0, 2, Due.TAKEN, 3), 3);
        due.is("pulse", x.field(3, 2, 2, Due.PULSE, 0), 4);
        due.is("held", x.field(3, 4, 2, Due.HELD, 2), 5);
        due.is("load", x.field(3, 6, 2, Due.LOAD, 0), 6);
        due.is("read of resets", x.read(0), 0xffff);
        due.is("read of register 3", x.read(3), 3 + (2 << 4));
        due.is("fields", x.count(1), 7);
    }

    private static void fieldOverlapAndFull() {
        DriverBook x = new DriverBook();
        for (int i = 0; i < 24; i++) {
            due.is("field " + i, x.field(i / 16, i % 16, 1, 0, 0), i);
        }
        due.is("OVERLAP ahead of FULL", x.field(0, 3, 2, 0, 0), -2);
        due.is("FULL", x.field(2, 0, 1, 0, 0), -3);
        due.is("NONE ahead of FULL", x.field(2, 0, 0, 0, 0), -1);
        due.is("24 fields", x.count(1), 24);
        x.write(1, 0x80);
        due.is("the last field", x.peek(23, 0), 1);
    }

    private static void fieldPowers() {
        DriverBook x = new DriverBook();
        x.field(0, 0, 4, Due.PLAIN, 5);
        x.write(0, 9);
        due.is("refused field leaves values", x.field(0, 0, 1, 0, 0), -2);
        due.is("value", x.peek(0, 0), 9);
        x.field(0, 4, 4, Due.HELD, 6);
        due.is("field powers: value", x.peek(0, 0), 5);
        due.is("field powers: now", x.count(4), 0);
        due.is("field powers: shadow", x.shadow(0), 0x65);
    }

    private static void period() {
        DriverBook x = new DriverBook();
        x.field(0, 0, 2, Due.PULSE, 0);
        x.field(0, 2, 2, Due.PLAIN, 1);
        x.write(0, 13);
        due.is("no such field", x.period(2, 3), -1);
        due.is("no such field", x.period(-1, 3), -1);
        due.is("ticks 0", x.period(0, 0), -1);
        due.is("ticks 10", x.period(0, 10), -1);
        due.is("NONE ahead of KIND", x.period(1, 10), -1);
        due.is("KIND", x.period(1, 9), -4);
        due.is("refused period leaves the state", x.peek(1, 0), 3);
        due.is("period at first", x.period(0, 1), 3);
        due.is("period powers", x.peek(1, 0), 1);
        due.is("period powers: now", x.count(4), 0);
        x.write(0, 1);
        due.is("period 1 ends with the write's tick", x.peek(0, 0), 0);
        due.is("period 9", x.period(0, 9), 1);
        x.write(0, 2);
        due.is("timer", x.peek(0, 2), 8);
        x.wait(7);
        due.is("value", x.peek(0, 0), 2);
        x.wait(1);
        due.is("value", x.peek(0, 0), 0);
        due.is("the one it had", x.period(0, 4), 9);
    }

    private static void done() {
        DriverBook x = new DriverBook();
        int[] kinds = {Due.PULSE, Due.STATUS, Due.FLAG, Due.PLAIN, Due.TAKEN, Due.PULSE, Due.HELD, Due.LOAD};
        for (int i = 0; i < kinds.length; i++) {
            x.field(0, 2 * i, 2, kinds[i], 0);
        }
        x.write(0, 1 << 6);
        due.is("no such field", x.done(8, 1), -1);
        due.is("no such field", x.done(-1, 1), -1);
        due.is("no such other", x.done(0, 8), -1);
        due.is("no such other", x.done(0, -2), -1);
        due.is("NONE of the other ahead of KIND of the first", x.done(1, 8), -1);
        due.is("no pulse", x.done(1, 2), -4);
        due.is("no pulse, none", x.done(1, -1), -4);
        for (int other = 3; other < 8; other++) {
            due.is("done(0, " + other + ")", x.done(0, other), -4);
        }
        due.is("itself", x.done(0, 0), -4);
        due.is("refused done leaves the state", x.peek(3, 0), 1);
        due.is("done(0, 1)", x.done(0, 1), -1);
        due.is("done powers", x.peek(3, 0), 0);
        due.is("done powers: now", x.count(4), 0);
        x.write(0, 1);
        x.wait(1);
        due.is("not yet", x.peek(1, 0), 0);
        x.wait(1);
        due.is("all bits of the status", x.peek(1, 0), 3);
        due.is("done(0, 2)", x.done(0, 2), 1);
        x.write(0, 3);
        x.wait(2);
        due.is("all bits of the flag", x.peek(2, 0), 3);
        due.is("not of the status", x.peek(1, 0), 0);
        due.is("done(0, -1)", x.done(0, -1), 2);
        x.write(0, 3);
        x.wait(9);
        due.is("none", x.peek(2, 0), 0);
        due.is("done(0, -1) again", x.done(0, -1), -1);
    }

    private static void law() {
        DriverBook x = new DriverBook();
        due.is("no fields", x.law(0, 0, 0, 0), -1);
        x.field(0, 0, 2, Due.PLAIN, 0);
        x.field(0, 2, 2, Due.STATUS, 0);
        x.write(0, 1);
        int[][] refused = {
            {-1, 0, 0, 0}, {3, 0, 0, 0}, {0, -1, 0, 0}, {0, 2, 0, 0}, {0, 0, -1, 0}, {0, 0, 2, 0},
            {0, 0, 0, -1}, {0, 0, 0, 256}, {MIN, 0, 0, 0}, {0, MAX, MIN, 0}, {0, 0, 0, MAX},
        };
        for (int[] a : refused) {
            due.is("law(" + a[0] + ", " + a[1] + ", " + a[2] + ", " + a[3] + ")",
                    x.law(a[0], a[1], a[2], a[3]), -1);
        }
        due.is("no law was told", x.count(2), 0);
        for (int i = 0; i < 12; i++) {
            due.is("law " + i, x.law(i % 3, 0, 1, i == 0 ? 255 : i), i);
        }
        due.is("FULL", x.law(0, 0, 1, 0), -3);
        due.is("NONE ahead of FULL", x.law(0, 0, 2, 0), -1);
        due.is("12 laws", x.count(2), 12);
        due.is("a law doesn't power", x.count(4), 1);
    }
}
