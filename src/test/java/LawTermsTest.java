/** Part I of the terms, HITS, LAWS, BREAKS and POWER: a test for each sentence that names a bound, an order or an edge. */
public final class LawTermsTest {
    private static final int NONE = -1;
    private static final Due due = new Due();

    public static void main(String[] args) {
        hitsOfPlain();
        hitsOfHeld();
        hitsOfFlagPulseLoad();
        noHitsOfStatusAndTaken();
        hitsInTheRegisterAlone();
        lawsWhileAValueIs();
        lawsWhileAValueIsNot();
        lawsOfANumberBeyondTheWidth();
        lawsAreLookedAtFirst();
        lawsOfTimeLessThan();
        lawsOfTimeAtTheirLargest();
        lawsOfTimeAtNowZero();
        lawsOfTimeWithoutAHit();
        lawsOfTimeByTheLastHit();
        lawsOfTimeAheadOfIt();
        writesAreDoneAllTheSame();
        breaksAreCountedLawByLaw();
        theFirstBreakIsKept();
        twelveLaws();
        readsBreakNothing();
        powerResetsTheChip();
        powerResetsTheDriver();
        powerForgetsHits();
        powerKeepsTheBook();
        due.end("LawTermsTest");
    }

    /** One FIELD of a kind with a value and the LAW that each HIT of it breaks: g is a STATUS of 0, which isn't 1. */
    private static DriverBook watched(int kind, int width, int reset) {
        DriverBook x = new DriverBook();
        x.field(0, 4, width, kind, reset);
        x.field(1, 0, 1, Due.STATUS, 0);
        x.law(1, 0, 1, 1);
        return x;
    }

    private static int hits(DriverBook x, int b) {
        int before = x.breaks(0);
        x.write(0, b << 4);
        return x.breaks(0) - before;
    }

    /** "ahead of it, b isn't its value (PLAIN)". */
    private static void hitsOfPlain() {
        for (int v = 0; v < 4; v++) {
            for (int b = 0; b < 4; b++) {
                DriverBook x = watched(Due.PLAIN, 2, v);
                due.is("PLAIN " + v + " by " + b, hits(x, b), b == v ? 0 : 1);
                due.is("the same again", hits(x, b), 0);
            }
        }
    }

    /** "isn't its PENDING (HELD)": its value doesn't count. */
    private static void hitsOfHeld() {
        for (int v = 0; v < 4; v++) {
            for (int b = 0; b < 4; b++) {
                DriverBook x = watched(Due.HELD, 2, v);
                due.is("HELD " + v + " by " + b, hits(x, b), b == v ? 0 : 1);
                due.is("its PENDING again", hits(x, b), 0);
                due.is("its value, which isn't its PENDING", hits(x, v), b == v ? 0 : 1);
            }
        }
    }

    /** "isn't 0 (FLAG, PULSE, LOAD)": whatever their values are. */
    private static void hitsOfFlagPulseLoad() {
        for (int kind : new int[] {Due.FLAG, Due.PULSE, Due.LOAD}) {
            for (int v = 0; v < (kind == Due.FLAG ? 4 : 1); v++) {
                for (int b = 0; b < 4; b++) {
                    DriverBook x = watched(kind, 2, v);
                    due.is("kind " + kind + ", value " + v + ", by " + b, hits(x, b), b == 0 ? 0 : 1);
                    due.is("and again", hits(x, b), b == 0 ? 0 : 1);
                }
            }
        }
    }

    /** STATUS and TAKEN aren't named: no WRITE HITS them. */
    private static void noHitsOfStatusAndTaken() {
        for (int kind : new int[] {Due.STATUS, Due.TAKEN}) {
            for (int v = 0; v < 4; v++) {
                DriverBook x = watched(kind, 2, v);
                for (int b = 0; b < 4; b++) {
                    due.is("kind " + kind + ", value " + v + ", by " + b, hits(x, b), 0);
                }
            }
        }
    }

    /** "a FIELD in its REGISTER". */
    private static void hitsInTheRegisterAlone() {
        DriverBook x = watched(Due.PLAIN, 2, 0);
        for (int r = 1; r < 4; r++) {
            x.write(r, 65535);
            due.is("another REGISTER", x.breaks(0), 0);
        }
        due.is("bits beside it", x.write(0, 65535 & ~(3 << 4)), 4);
        due.is("bits beside it", x.breaks(0), 0);
        x.write(0, 65535);
        due.is("its own", x.breaks(0), 1);
    }

    /** A LAW of f, the PLAIN 0, and g, a STATUS of 8 bits with a value; whether a HIT of f BREAKS it. */
    private static int breaksOf(int kind, int value, int v) {
        DriverBook x = new DriverBook();
        x.field(0, 0, 1, Due.PLAIN, 0);
        x.field(1, 0, 8, Due.STATUS, value);
        x.law(kind, 0, 1, v);
        x.write(0, 0);
        due.is("no HIT, no BREAK", x.breaks(0), 0);
        x.write(0, 1);
        return x.breaks(0);
    }

    /** "0: a WRITE that HITS f while g's value is v BREAKS it". */
    private static void lawsWhileAValueIs() {
        int[] numbers = {0, 1, 2, 254, 255};
        for (int value : numbers) {
            for (int v : numbers) {
                due.is("g " + value + ", v " + v, breaksOf(0, value, v), value == v ? 1 : 0);
            }
        }
    }

    /** "1: a WRITE that HITS f while g's value isn't v BREAKS it". */
    private static void lawsWhileAValueIsNot() {
        int[] numbers = {0, 1, 2, 254, 255};
        for (int value : numbers) {
            for (int v : numbers) {
                due.is("g " + value + ", v " + v, breaksOf(1, value, v), value == v ? 0 : 1);
            }
        }
    }

    /** v may be more than g can be: kind 0 is never broken then, kind 1 by each HIT. */
    private static void lawsOfANumberBeyondTheWidth() {
        DriverBook x = new DriverBook();
        x.field(0, 0, 1, Due.PLAIN, 0);
        x.field(1, 0, 1, Due.STATUS, 1);
        x.law(0, 0, 1, 3);
        x.write(0, 1);
        due.is("kind 0", x.breaks(0), 0);
        x.law(1, 0, 1, 3);
        x.write(0, 0);
        due.is("kind 1", x.breaks(0), 1);
    }

    /** "first the LAWS are looked at": by the values ahead of the WRITE, of f itself too. */
    private static void lawsAreLookedAtFirst() {
        DriverBook x = new DriverBook();
        x.field(0, 0, 2, Due.PLAIN, 0);
        x.field(0, 2, 2, Due.PLAIN, 1);
        x.law(0, 0, 0, 2);
        x.law(0, 0, 1, 3);
        x.write(0, 2 + (3 << 2));
        due.is("f and g become v by this WRITE", x.breaks(0), 0);
        x.write(0, 1);
        due.is("they were v ahead of this one", x.breaks(0), 2);
        due.is("at the NOW ahead of its TICK", x.breaks(2), 1);
        DriverBook y = new DriverBook();
        y.field(0, 0, 2, Due.PULSE, 0);
        y.field(0, 2, 2, Due.HELD, 0);
        y.field(0, 4, 1, Due.LOAD, 0);
        y.law(1, 2, 1, 0);
        y.law(1, 0, 0, 0);
        y.write(0, 1 + (3 << 2) + 16);
        due.is("a PULSE's and a HELD's value of before", y.breaks(0), 0);
        y.write(0, 1 + 16);
        due.is("what they became", y.breaks(0), 2);
    }

    /** A HIT of g (FLAG 1), TICKS, a HIT of f (PLAIN 0), so that its NOW is so much above: whether a LAW of v is broken. */
    private static int breaksOfTime(int above, int v) {
        DriverBook x = new DriverBook();
        x.field(0, 0, 1, Due.PLAIN, 0);
        x.field(1, 0, 1, Due.FLAG, 0);
        x.law(2, 0, 1, v);
        x.wait(7);
        x.write(1, 1);
        for (int left = above - 1; left > 0; left -= 50) {
            x.wait(Math.min(left, 50));
        }
        x.write(0, 1);
        due.is("NOW", x.count(4), 8 + above);
        return x.breaks(0);
    }

    /** "2: a WRITE that HITS f at a NOW that is less than v above the NOW of the last WRITE .. that HIT g". */
    private static void lawsOfTimeLessThan() {
        for (int above = 1; above <= 4; above++) {
            for (int v = 0; v <= 6; v++) {
                due.is(above + " above, v " + v, breaksOfTime(above, v), above < v ? 1 : 0);
            }
        }
    }

    /** v up to 255. */
    private static void lawsOfTimeAtTheirLargest() {
        due.is("254 above, v 255", breaksOfTime(254, 255), 1);
        due.is("255 above, v 255", breaksOfTime(255, 255), 0);
        due.is("253 above, v 254", breaksOfTime(253, 254), 1);
        due.is("254 above, v 254", breaksOfTime(254, 254), 0);
    }

    /** A HIT at NOW 0 is a HIT. */
    private static void lawsOfTimeAtNowZero() {
        DriverBook x = new DriverBook();
        x.field(0, 0, 1, Due.PLAIN, 0);
        x.field(1, 0, 1, Due.FLAG, 0);
        x.law(2, 0, 1, 2);
        x.write(1, 1);
        x.write(0, 1);
        due.is("1 above", x.breaks(0), 1);
        due.is("its NOW", x.breaks(2), 1);
        x.write(0, 0);
        due.is("2 above", x.breaks(0), 1);
    }

    /** "(if there was one)": also at a NOW below v. */
    private static void lawsOfTimeWithoutAHit() {
        DriverBook x = new DriverBook();
        x.field(0, 0, 1, Due.PLAIN, 0);
        x.field(1, 0, 1, Due.FLAG, 0);
        x.law(2, 0, 1, 255);
        x.write(0, 1);
        x.write(1, 0);
        x.write(0, 0);
        x.read(1);
        x.write(0, 1);
        due.is("no HIT of g", x.breaks(0), 0);
        x.write(1, 1);
        due.is("a HIT of g alone", x.breaks(0), 0);
        x.write(0, 0);
        due.is("a HIT of f behind it", x.breaks(0), 1);
    }

    /** "the last WRITE ahead of it that HIT g": not the first one. */
    private static void lawsOfTimeByTheLastHit() {
        DriverBook x = new DriverBook();
        x.field(0, 0, 1, Due.PLAIN, 0);
        x.field(1, 0, 1, Due.FLAG, 0);
        x.law(2, 0, 1, 5);
        x.write(1, 1);
        x.wait(9);
        x.write(1, 1);
        x.wait(2);
        x.write(0, 1);
        due.is("3 above the last, 13 above the first", x.breaks(0), 1);
        x.wait(1);
        x.write(0, 0);
        due.is("5 above the last", x.breaks(0), 1);
    }

    /** "ahead of it": a WRITE that HITS f and g at once isn't ahead of itself; it is ahead of the next. */
    private static void lawsOfTimeAheadOfIt() {
        DriverBook x = new DriverBook();
        x.field(0, 0, 1, Due.PLAIN, 0);
        x.field(0, 1, 1, Due.FLAG, 0);
        x.law(2, 0, 1, 255);
        x.law(2, 1, 1, 255);
        x.law(2, 0, 0, 255);
        x.write(0, 3);
        due.is("none ahead of it", x.breaks(0), 0);
        x.write(0, 2);
        due.is("f and g again", x.breaks(0), 3);
    }

    /** "A WRITE is done all the same." */
    private static void writesAreDoneAllTheSame() {
        DriverBook x = new DriverBook();
        x.field(0, 0, 2, Due.PLAIN, 0);
        x.field(0, 2, 2, Due.FLAG, 3);
        x.field(0, 4, 2, Due.PULSE, 0);
        x.field(0, 6, 2, Due.HELD, 0);
        x.field(0, 8, 2, Due.LOAD, 0);
        for (int f = 0; f < 5; f++) {
            x.law(1, f, 0, 99);
        }
        due.is("NOW", x.write(0, 1 + (1 << 2) + (1 << 4) + (1 << 6) + (1 << 8)), 1);
        due.is("five BREAKS", x.breaks(0), 5);
        int[] values = {1, 2, 1, 1, 0};
        for (int f = 0; f < 5; f++) {
            due.is("value " + f, x.peek(f, 0), values[f]);
        }
    }

    /** "BREAKS are counted, LAW by LAW": one WRITE may break several, and one LAW several times. */
    private static void breaksAreCountedLawByLaw() {
        DriverBook x = new DriverBook();
        x.field(0, 0, 1, Due.PLAIN, 0);
        x.field(0, 1, 1, Due.PLAIN, 0);
        x.law(1, 0, 0, 9);
        x.law(1, 0, 0, 9);
        x.law(1, 1, 0, 9);
        x.write(0, 1);
        due.is("two LAWS of one FIELD", x.breaks(0), 2);
        x.write(0, 3);
        due.is("one of the other", x.breaks(0), 3);
        x.write(0, 0);
        due.is("three of both", x.breaks(0), 6);
        x.write(0, 0);
        due.is("none", x.breaks(0), 6);
    }

    /** "the first one's LAW and NOW are kept". */
    private static void theFirstBreakIsKept() {
        DriverBook x = new DriverBook();
        x.field(0, 0, 1, Due.PLAIN, 0);
        x.field(1, 0, 1, Due.PLAIN, 0);
        x.law(1, 0, 0, 9);
        x.law(1, 1, 0, 9);
        x.law(1, 1, 0, 9);
        x.wait(5);
        x.write(1, 1);
        due.is("the lowest LAW of one WRITE", x.breaks(1), 1);
        due.is("NOW ahead of the TICK", x.breaks(2), 5);
        x.write(0, 1);
        due.is("three BREAKS", x.breaks(0), 3);
        due.is("a lower LAW comes later", x.breaks(1), 1);
        due.is("its NOW", x.breaks(2), 5);
        x.power();
        x.write(0, 1);
        due.is("the first since POWER", x.breaks(1), 0);
        due.is("at NOW 0", x.breaks(2), 0);
    }

    /** "LAWS 0 .. 11": the last one is looked at like the first. */
    private static void twelveLaws() {
        DriverBook x = new DriverBook();
        x.field(0, 0, 1, Due.PLAIN, 0);
        x.field(1, 0, 1, Due.PLAIN, 0);
        for (int k = 0; k < 12; k++) {
            due.is("law " + k, x.law(1, k == 11 ? 1 : 0, 0, 9), k);
        }
        x.write(1, 1);
        due.is("the last alone", x.breaks(0), 1);
        due.is("its number", x.breaks(1), 11);
        x.write(0, 1);
        due.is("the eleven others", x.breaks(0), 12);
        due.is("a 13th is refused", x.law(1, 0, 0, 9), -3);
        x.write(0, 0);
        due.is("and counts for nothing", x.breaks(0), 23);
    }

    /** LAWS are of WRITES: no READ, TICK, EVENT or PULSE's end BREAKS one. */
    private static void readsBreakNothing() {
        DriverBook x = Scenes.kinds();
        for (int f = 0; f < 7; f++) {
            x.law(1, f, 0, 99);
        }
        for (int f = 1; f <= 3; f++) {
            x.event(f, 3, 2);
        }
        x.read(0);
        x.wait(9);
        x.read(0);
        due.is("no BREAKS", x.breaks(0), 0);
        x.write(0, 1 << 8);
        due.is("a PULSE's WRITE", x.breaks(0), 1);
        x.wait(9);
        due.is("not its end", x.breaks(0), 1);
    }

    /** "all values, and PENDING, are RESET, TIMERS 0, NOW 0; no EVENTS, .. no BREAKS, nothing SERVED". */
    private static void powerResetsTheChip() {
        DriverBook x = Scenes.rich();
        x.power();
        int[] resets = {3, 0, 1, 7, 0, 0, 0, 0, 1, 2, 0};
        for (int f = 0; f < 11; f++) {
            due.is("value " + f, x.peek(f, 0), resets[f]);
        }
        due.is("PENDING", x.peek(3, 1), 7);
        due.is("TIMER", x.peek(5, 2), 0);
        due.is("TIMER", x.peek(10, 2), 0);
        due.is("NOW", x.count(4), 0);
        due.is("EVENTS", x.count(6), 0);
        due.is("BREAKS", x.breaks(0), 0);
        due.is("no first BREAK", x.breaks(1), NONE);
        due.is("SERVED", x.count(5), 0);
        x.wait(50);
        for (int f = 0; f < 11; f++) {
            due.is("no EVENT, no TIMER comes later: " + f, x.peek(f, 0), resets[f]);
        }
    }

    /** "SHADOWS are the RESET bits of PLAIN and HELD fields, SOFTS 0, RESULT 0". */
    private static void powerResetsTheDriver() {
        DriverBook x = Scenes.rich();
        due.is("a SOFT ahead", x.peek(2, 3), 1);
        due.is("a RESULT ahead", x.result(), 9);
        due.is("a SHADOW ahead", x.shadow(1), 5);
        x.power();
        int[] shadows = {3, 7, 0, 0x21, 0};
        for (int r = 0; r < 5; r++) {
            due.is("SHADOW " + r, x.shadow(r), shadows[r]);
        }
        due.is("SOFT", x.peek(2, 3), 0);
        due.is("RESULT", x.result(), 0);
        DriverBook y = new DriverBook();
        for (int kind = 0; kind < 7; kind++) {
            y.field(0, 2 * kind, 2, kind, kind == Due.PULSE || kind == Due.LOAD ? 0 : 3);
        }
        due.is("of PLAIN and HELD alone", y.shadow(0), 3 + (3 << 10));
    }

    /** "no HITS". */
    private static void powerForgetsHits() {
        DriverBook x = new DriverBook();
        x.field(0, 0, 1, Due.FLAG, 0);
        x.law(2, 0, 0, 255);
        x.write(0, 1);
        x.write(0, 1);
        due.is("a BREAK", x.breaks(0), 1);
        x.power();
        x.write(0, 1);
        due.is("no HIT ahead of POWER counts", x.breaks(0), 0);
        x.write(0, 1);
        due.is("one behind it does", x.breaks(0), 1);
        x.field(0, 1, 1, Due.PLAIN, 0);
        x.write(0, 1);
        due.is("field() is a POWER too", x.breaks(0), 0);
    }

    /** POWER is of the STATE: FIELDS, LAWS, ACTS, HANDLERS, LOCKS, PERIODS, DONE fields and TAPES stay. */
    private static void powerKeepsTheBook() {
        DriverBook x = Scenes.rich();
        x.power();
        int[] counts = {5, 11, 3, 4, 0, 0, 0, 0, 1};
        for (int what = 0; what < 9; what++) {
            due.is("count " + what, x.count(what), counts[what]);
        }
        due.is("an ACT's CODE", x.code(1), 9);
        due.is("the HANDLER", x.handler(7, 0), 0);
        due.is("why", x.why(0), 3);
        due.is("a row", x.at(4, 3), 43);
        due.is("the DONE field", x.done(5, 7), 7);
        due.is("the PERIOD", x.period(5, 9), 9);
        due.is("an IMAGE", x.clear(5), 5);
    }
}
