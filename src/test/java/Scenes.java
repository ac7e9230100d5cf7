/** Objects with a past, of which the tests of refused calls look at everything. */
final class Scenes {
    private Scenes() {
    }

    /**
     * Something of everything: values, PENDING, SHADOWS and SOFTS that differ, a TIMER that runs, EVENTS to come, HITS,
     * BREAKS, SERVED, a WALK that told a t, LOCKS off, TAPES of every sort. ACTS: 0 the HANDLER of FLAG 7, 1 ends,
     * 2 has no STEPS, 3 has a TIMEOUT. TAPES: 0 nothing, 1 to 4 rows of four of that sort, 5 an IMAGE with BREAKS.
     */
    static DriverBook rich() {
        DriverBook x = new DriverBook();
        x.begin(5);
        x.field(0, 0, 4, Due.PLAIN, 3);
        x.field(0, 4, 2, Due.FLAG, 0);
        x.field(0, 6, 3, Due.TAKEN, 1);
        x.field(1, 0, 4, Due.HELD, 7);
        x.field(1, 8, 1, Due.LOAD, 0);
        x.field(1, 9, 2, Due.PULSE, 0);
        x.field(2, 0, 3, Due.STATUS, 0);
        x.field(2, 3, 2, Due.FLAG, 0);
        x.field(3, 0, 4, Due.PLAIN, 1);
        x.field(3, 4, 4, Due.PLAIN, 2);
        x.field(4, 15, 1, Due.PULSE, 0);
        x.period(5, 9);
        x.done(5, 7);
        x.done(10, 6);
        x.law(0, 0, 8, 1);
        x.law(2, 8, 0, 60);
        x.law(1, 3, 6, 0);
        richActs(x);
        x.locks(0);
        x.walk(1, 7);
        x.event(7, 1, 1);
        x.event(6, 3, 34);
        x.event(2, 5, 20);
        x.event(1, 2, 35);
        x.event(2, 1, 36);
        x.write(0, 9);
        x.run(1);
        richTapes(x);
        x.write(1, 6 + (3 << 9));
        x.write(4, 0x8000);
        x.write(0, 12);
        return x;
    }

    /** All that POWER says, of the rich scene's FIELDS 0 to 10. */
    static void powered(Due due, String what, DriverBook x) {
        int[] resets = {3, 0, 1, 7, 0, 0, 0, 0, 1, 2, 0};
        for (int f = 0; f < resets.length; f++) {
            due.is(what + ": a value", x.peek(f, 0), resets[f]);
        }
        due.is(what + ": PENDING", x.peek(3, 1), 7);
        due.is(what + ": a TIMER", x.peek(5, 2), 0);
        due.is(what + ": a TIMER", x.peek(10, 2), 0);
        due.is(what + ": a SOFT", x.peek(2, 3), 0);
        int[] shadows = {3, 7, 0, 0x21, 0};
        for (int r = 0; r < 5; r++) {
            due.is(what + ": a SHADOW", x.shadow(r), shadows[r]);
        }
        due.is(what + ": RESULT", x.result(), 0);
        due.is(what + ": NOW", x.count(4), 0);
        due.is(what + ": SERVED", x.count(5), 0);
        due.is(what + ": EVENTS", x.count(6), 0);
        due.is(what + ": BREAKS", x.breaks(0), 0);
        due.is(what + ": the first one's LAW", x.breaks(1), DriverBook.NONE);
        due.is(what + ": the first one's NOW", x.breaks(2), DriverBook.NONE);
        x.write(3, 0x24);
        due.is(what + ": no HITS, so LAW 1 isn't broken", x.breaks(0), 0);
        x.wait(50);
        due.is(what + ": no EVENTS come", x.peek(6, 0) + x.peek(1, 0), 0);
    }

    private static void richActs(DriverBook x) {
        for (int a = 0; a < 4; a++) {
            x.act();
        }
        x.step(0, Due.SET, 7, 3, 0);
        x.step(0, Due.SET, 9, 5, 0);
        x.step(1, Due.SET, 8, 4, 0);
        x.step(1, Due.SET, 3, 5, 0);
        x.step(1, Due.GET, 9, 0, 0);
        x.step(1, Due.AWAIT, 6, 0, 5);
        x.step(1, Due.GET, 0, 0, 0);
        x.step(1, Due.PAUSE, -1, 2, 0);
        x.step(3, Due.AWAIT, 6, 5, 1);
        x.handler(7, 0);
    }

    private static void richTapes(DriverBook x) {
        for (int sort = 1; sort <= 4; sort++) {
            x.tape(sort, sort, 4);
            for (int i = 0; i < 4; i++) {
                x.put(sort, i, sort == 3 ? i % 2 : 10 * sort + i);
            }
        }
        x.put(0, 0, 0);
        x.image(5);
    }

    /**
     * As many of everything as there may be: 24 FIELDS, 12 LAWS, 6 ACTS of 12 STEPS (5 has a TIMEOUT), 16 EVENTS, 6 rows
     * of 64. FIELD f is in REGISTER f / 3; FLAG 1 has ACT 1 as its HANDLER, FLAGS 9 and 17 have none.
     */
    static DriverBook full() {
        DriverBook x = new DriverBook();
        x.begin(8);
        int[] kinds = {Due.PLAIN, Due.FLAG, Due.STATUS, Due.TAKEN, Due.PULSE, Due.HELD, Due.LOAD, Due.PLAIN};
        for (int f = 0; f < 24; f++) {
            x.field(f / 3, f % 3 * 2, 2, kinds[f % 8], 0);
        }
        for (int k = 0; k < 12; k++) {
            x.law(k % 3, k, 23 - k, k % 4);
        }
        for (int a = 0; a < 6; a++) {
            x.act();
            for (int k = 1; k <= 12; k++) {
                boolean awaits = a == 5 && k == 12;
                x.step(a, awaits ? Due.AWAIT : Due.SET, (8 * k + a % 2) % 24, awaits ? 3 : k % 4, 0);
            }
        }
        x.handler(1, 1);
        for (int k = 0; k < 16; k++) {
            x.event(1 + k % 3, 1 + k % 3, k < 4 ? 3 + k : 40 + k);
        }
        for (int d = 0; d < 6; d++) {
            x.tape(d, 1 + d % 4, 64);
            x.put(d, 63, d + 1);
        }
        x.write(0, 0x3f);
        x.write(2, 0x3f);
        return x;
    }

    /** TAPE 5 held an IMAGE. */
    static DriverBook clearedImage() {
        DriverBook x = rich();
        x.clear(5);
        return x;
    }

    /** TAPE 5 holds a row of bytes without places, behind an IMAGE and a row of 64. */
    static DriverBook emptyRow() {
        DriverBook x = rich();
        x.tape(5, 1, 64);
        x.tape(5, 1, 0);
        return x;
    }

    /** TAPE 5 holds a row of ints without places, behind an IMAGE and a row of 64. */
    static DriverBook emptyIntRow() {
        DriverBook x = rich();
        x.tape(5, 3, 64);
        x.tape(5, 3, 0);
        return x;
    }

    /** A new object with one field of each kind in register 0, two bits each, by the kind's number; and one ACT. */
    static DriverBook kinds() {
        DriverBook x = new DriverBook();
        for (int kind = 0; kind < 7; kind++) {
            x.field(0, 2 * kind, 2, kind, 0);
        }
        x.act();
        return x;
    }
}
