/** Promises 17, 25 and 26 with handlers: run, walk, why. */
public final class HandlerTest {
    private static final Due due = new Due();

    public static void main(String[] args) {
        servedAheadOfInstructions();
        servedBehindTheLast();
        servedBetweenReadsOfAPoll();
        servedBetweenTicksOfAPause();
        servedBehindATimeout();
        atMostEightInARow();
        firstFlagByNumber();
        notWithinAHandler();
        ownAccAndResult();
        handlerTimeout();
        locked();
        softsOfAHandler();
        walkRefusals();
        walkIsWell();
        walkTimeouts();
        walkBreaks();
        walkValues();
        walkHeld();
        walkOfFieldZero();
        walkServed();
        walkLeavesTheState();
        why();
        due.end("HandlerTest");
    }

    /** Register 0: flag 0; register 1: plain 1; register 2: status 2. Act 0 is the handler: it clears the flag. */
    private static DriverBook chip() {
        DriverBook x = new DriverBook();
        x.field(0, 0, 2, Due.FLAG, 0);
        x.field(1, 0, 4, Due.PLAIN, 0);
        x.field(2, 0, 4, Due.STATUS, 0);
        x.act();
        x.step(0, Due.SET, 0, 3, 0);
        x.handler(0, 0);
        x.act();
        return x;
    }

    private static void servedAheadOfInstructions() {
        DriverBook x = chip();
        x.event(0, 1, 1);
        x.wait(1);
        x.step(1, Due.GET, 2, 0, 0);
        due.is("the handler's tick and a read", x.run(1), 2);
        due.is("served", x.count(5), 1);
        due.is("cleared", x.peek(0, 0), 0);
        x.event(0, 1, 4);
        due.is("ahead of the PICK", x.run(1), 2);
        due.is("served", x.count(5), 2);
        due.is("now", x.count(4), 5);
    }

    private static void servedBehindTheLast() {
        DriverBook x = chip();
        x.step(1, Due.PAUSE, -1, 1, 0);
        x.event(0, 2, 1);
        due.is("behind the last", x.run(1), 2);
        due.is("served", x.count(5), 1);
        x.bare(1);
        x.event(0, 2, 3);
        x.wait(1);
        due.is("an act without instructions serves at its end", x.run(1), 1);
        due.is("served", x.count(5), 2);
    }

    private static void servedBetweenReadsOfAPoll() {
        DriverBook x = chip();
        x.step(0, Due.PAUSE, -1, 4, 0);
        x.step(1, Due.AWAIT, 2, 7, 1);
        x.event(0, 1, 1);
        x.event(2, 7, 6);
        due.is("two reads with five ticks between", x.run(1), 7);
        due.is("served", x.count(5), 1);
    }

    private static void servedBetweenTicksOfAPause() {
        DriverBook x = chip();
        x.step(1, Due.PAUSE, -1, 3, 0);
        x.event(0, 1, 1);
        x.event(0, 1, 3);
        x.event(0, 1, 5);
        due.is("three pauses, three handlers", x.run(1), 6);
        due.is("served", x.count(5), 3);
    }

    private static void servedBehindATimeout() {
        DriverBook x = chip();
        x.step(1, Due.AWAIT, 2, 7, 1);
        x.step(1, Due.SET, 1, 5, 0);
        x.event(0, 1, 2);
        due.is("TIMEOUT", x.run(1), -5);
        due.is("served behind it", x.count(5), 1);
        due.is("two reads and the handler", x.count(4), 3);
        due.is("no more of the act", x.peek(1, 0), 0);
    }

    private static void atMostEightInARow() {
        DriverBook x = chip();
        x.bare(0);
        x.step(0, Due.PAUSE, -1, 1, 0);
        x.event(0, 1, 1);
        x.wait(1);
        x.step(1, Due.PAUSE, -1, 2, 0);
        due.is("8 ahead, 8 between, 8 behind", x.run(1), 26);
        due.is("served", x.count(5), 24);
        x.bare(0);
        due.is("handlers without steps", x.run(1), 2);
        due.is("served", x.count(5), 48);
    }

    private static void firstFlagByNumber() {
        DriverBook x = chip();
        x.field(3, 0, 1, Due.FLAG, 0);
        x.field(3, 1, 1, Due.FLAG, 0);
        x.act();
        x.step(0, Due.SET, 1, 1, 0);
        x.step(2, Due.SET, 3, 1, 0);
        x.step(2, Due.SET, 1, 2, 0);
        x.handler(3, 2);
        x.event(3, 1, 1);
        x.event(0, 1, 1);
        x.event(4, 1, 1);
        x.wait(1);
        due.is("two handlers of two writes", x.run(1), 4);
        due.is("the higher number is last", x.peek(1, 0), 2);
        due.is("a flag without a handler", x.peek(4, 0), 1);
        due.is("served", x.count(5), 2);
        x.power();
        x.event(3, 1, 1);
        x.event(0, 1, 2);
        x.wait(1);
        x.run(1);
        due.is("the lower number came later", x.peek(1, 0), 1);
    }

    private static void notWithinAHandler() {
        DriverBook x = chip();
        x.field(3, 0, 1, Due.FLAG, 0);
        x.act();
        x.step(2, Due.SET, 3, 1, 0);
        x.step(2, Due.PAUSE, -1, 3, 0);
        x.step(2, Due.SET, 1, 2, 0);
        x.handler(3, 2);
        x.step(0, Due.SET, 1, 1, 0);
        x.event(3, 1, 1);
        x.event(0, 1, 2);
        x.wait(1);
        due.is("one behind the other", x.run(1), 7);
        due.is("the second waited", x.peek(1, 0), 1);
    }

    private static void ownAccAndResult() {
        DriverBook x = new DriverBook();
        x.field(0, 0, 2, Due.FLAG, 0);
        x.field(1, 0, 4, Due.STATUS, 9);
        x.field(2, 0, 4, Due.STATUS, 6);
        x.act();
        x.act();
        x.step(0, Due.SET, 0, 3, 0);
        x.step(0, Due.GET, 2, 0, 0);
        x.step(1, Due.GET, 1, 0, 0);
        x.handler(0, 0);
        x.event(0, 1, 1);
        due.is("ahead of the PICK", x.run(1), 3);
        due.is("the act's own ACC", x.result(), 9);
        x.event(0, 1, 4);
        x.wait(1);
        x.bare(1);
        x.run(1);
        due.is("the handler's result is thrown away", x.result(), 9);
        due.is("served", x.count(5), 2);
    }

    private static void handlerTimeout() {
        DriverBook x = chip();
        x.step(0, Due.AWAIT, 2, 5, 1);
        x.step(0, Due.SET, 1, 3, 0);
        x.step(1, Due.PAUSE, -1, 1, 0);
        x.event(0, 1, 1);
        due.is("the act goes on", x.run(1), 4);
        due.is("the handler doesn't", x.peek(1, 0), 0);
        due.is("served", x.count(5), 1);
    }

    private static void locked() {
        for (int on = 0; on < 2; on++) {
            DriverBook x = new DriverBook();
            x.field(0, 0, 2, Due.FLAG, 0);
            x.field(1, 0, 4, Due.PLAIN, 0);
            x.field(1, 4, 4, Due.PLAIN, 0);
            x.act();
            x.act();
            x.step(0, Due.SET, 0, 3, 0);
            x.step(0, Due.SET, 2, 7, 0);
            x.step(1, Due.SET, 1, 5, 0);
            x.handler(0, 0);
            x.locks(on);
            x.event(0, 1, 1);
            due.is("ticks", x.run(1), 5);
            due.is("served", x.count(5), 1);
            due.is("set", x.peek(1, 0), 5);
            due.is("the handler's is lost without locks", x.peek(2, 0), on == 1 ? 7 : 0);
        }
    }

    private static void softsOfAHandler() {
        DriverBook x = chip();
        x.field(2, 4, 3, Due.TAKEN, 5);
        x.step(0, Due.GET, 2, 0, 0);
        x.step(1, Due.GET, 3, 0, 0);
        x.event(0, 1, 1);
        x.wait(1);
        x.run(1);
        due.is("a handler's read takes into the soft", x.result(), 5);
        due.is("and the act picks it", x.peek(3, 3), 0);
    }

    private static void walkRefusals() {
        DriverBook x = chip();
        x.field(3, 0, 1, Due.FLAG, 0);
        due.is("no such act", x.walk(2, 0), -1);
        due.is("no such act", x.walk(-1, 0), -1);
        due.is("no such field", x.walk(1, 4), -1);
        due.is("no such field", x.walk(1, -1), -1);
        due.is("NONE ahead of KIND", x.walk(2, 1), -1);
        due.is("no flag", x.walk(1, 1), -4);
        due.is("no flag, a status", x.walk(1, 2), -4);
        due.is("no handler", x.walk(1, 3), -4);
        x.step(1, Due.AWAIT, 2, 1, 3);
        due.is("TIMEOUT", x.walk(1, 0), -5);
        due.is("the state is as ahead", x.count(4), 0);
        for (int i = 0; i < 16; i++) {
            x.event(2, 0, 900);
        }
        due.is("TIMEOUT ahead of FULL", x.walk(1, 0), -5);
        due.is("KIND ahead of TIMEOUT", x.walk(1, 3), -4);
        x.bare(1);
        due.is("FULL", x.walk(1, 0), -3);
        x.step(1, Due.PAUSE, -1, 3, 0);
        due.is("FULL with ticks", x.walk(1, 0), -3);
        due.is("nothing told a t", x.why(0), -1);
    }

    private static void walkIsWell() {
        DriverBook x = chip();
        due.is("no ticks", x.walk(1, 0), 0);
        x.step(1, Due.SET, 1, 5, 0);
        x.step(1, Due.AWAIT, 2, 0, 2);
        x.step(1, Due.GET, 2, 0, 0);
        x.step(1, Due.PAUSE, -1, 9, 0);
        due.is("well at each tick", x.walk(1, 0), 0);
        for (int i = 0; i < 15; i++) {
            x.event(2, 0, 3);
        }
        due.is("with 15 events", x.walk(1, 0), 0);
        due.is("events stay", x.count(6), 15);
        x.event(0, 1, 2);
        due.is("16 events", x.walk(1, 0), -3);
    }

    private static void walkTimeouts() {
        DriverBook x = chip();
        x.step(0, Due.PAUSE, -1, 9, 0);
        x.step(1, Due.PAUSE, -1, 3, 0);
        x.step(1, Due.AWAIT, 2, 6, 1);
        x.event(2, 6, 2);
        x.event(2, 0, 9);
        due.is("the handler makes it late", x.walk(1, 0), 1);
        due.is("why", x.why(0), 1);
        due.is("why, a field", x.why(1), -2);
        x.bare(0);
        x.step(0, Due.AWAIT, 2, 1, 0);
        x.step(0, Due.SET, 0, 3, 0);
        x.power();
        x.event(2, 1, 1);
        x.event(2, 6, 2);
        due.is("a handler's own timeouts are none of the act's", x.walk(1, 0), 2);
        due.is("why", x.why(0), 4);
    }

    private static void walkBreaks() {
        DriverBook x = chip();
        x.law(0, 1, 0, 1);
        x.step(1, Due.PAUSE, -1, 2, 0);
        x.step(1, Due.GET, 2, 0, 0);
        x.step(1, Due.SET, 1, 5, 0);
        due.is("the handler clears it ahead of the write", x.walk(1, 0), 0);
        x.law(2, 1, 0, 2);
        due.is("the write is too soon behind the handler's", x.walk(1, 0), 3);
        due.is("why", x.why(0), 2);
        due.is("why, a field", x.why(1), -2);
        due.is("no breaks are left", x.breaks(0), 0);
        x.law(1, 1, 1, 9);
        due.is("each run breaks it", x.walk(1, 0), 1);
        x.write(1, 1);
        due.is("a break of before", x.breaks(0), 1);
        x.bare(1);
        x.step(1, Due.PAUSE, -1, 2, 0);
        due.is("no more than in the state", x.walk(1, 0), 0);
    }

    private static void walkValues() {
        DriverBook x = new DriverBook();
        x.field(0, 0, 1, Due.FLAG, 0);
        x.field(1, 0, 2, Due.PLAIN, 0);
        x.field(1, 2, 2, Due.PLAIN, 1);
        x.field(1, 4, 2, Due.PLAIN, 2);
        x.act();
        x.act();
        x.handler(0, 0);
        x.step(0, Due.SET, 0, 1, 0);
        x.step(0, Due.SET, 2, 3, 0);
        x.step(1, Due.PAUSE, -1, 1, 0);
        x.step(1, Due.SET, 1, 1, 0);
        due.is("with locks", x.walk(1, 0), 0);
        x.locks(0);
        due.is("without", x.walk(1, 0), 2);
        due.is("why", x.why(0), 3);
        due.is("why, the field", x.why(1), 2);
        x.step(0, Due.SET, 3, 0, 0);
        due.is("two fields", x.walk(1, 0), 2);
        due.is("the first by number", x.why(1), 2);
        x.locks(1);
        x.bare(0);
        x.step(0, Due.SET, 0, 1, 0);
        x.step(0, Due.SET, 1, 2, 0);
        due.is("either of both", x.walk(1, 0), 0);
        x.step(0, Due.SET, 1, 3, 0);
        due.is("each one's last", x.walk(1, 0), 0);
        x.bare(0);
        x.step(0, Due.SET, 0, 1, 0);
        x.step(1, Due.SET, 1, 2, 0);
        due.is("the act's last", x.walk(1, 0), 0);
        x.write(1, 0x3f);
        due.is("as in the state if neither", x.walk(1, 0), 0);
    }

    private static void walkHeld() {
        DriverBook x = new DriverBook();
        x.field(0, 0, 1, Due.FLAG, 0);
        x.field(1, 0, 2, Due.HELD, 0);
        x.field(1, 2, 2, Due.HELD, 1);
        x.act();
        x.act();
        x.handler(0, 0);
        x.step(0, Due.SET, 0, 1, 0);
        x.step(0, Due.SET, 2, 3, 0);
        x.step(1, Due.PAUSE, -1, 1, 0);
        x.step(1, Due.SET, 1, 2, 0);
        due.is("by the shadow", x.walk(1, 0), 0);
        x.write(1, 0);
        due.is("a pending that the shadow doesn't know", x.walk(1, 0), 0);
        x.bare(0);
        x.step(0, Due.SET, 0, 1, 0);
        due.is("is written over", x.walk(1, 0), 1);
        due.is("why", x.why(0), 3);
        due.is("why, the field", x.why(1), 2);
        x.power();
        due.is("but for power", x.walk(1, 0), 0);
    }

    private static void walkOfFieldZero() {
        DriverBook x = new DriverBook();
        x.field(0, 0, 2, Due.PLAIN, 2);
        x.field(0, 2, 2, Due.PLAIN, 0);
        x.field(1, 0, 1, Due.FLAG, 0);
        x.act();
        x.act();
        x.handler(2, 0);
        x.step(0, Due.SET, 2, 1, 0);
        x.step(1, Due.PAUSE, -1, 1, 0);
        x.step(1, Due.SET, 0, 0, 0);
        due.is("set to 0", x.walk(1, 2), 0);
        x.bare(1);
        x.step(0, Due.SET, 0, 0, 0);
        x.step(1, Due.PAUSE, -1, 1, 0);
        due.is("set to 0 by the handler", x.walk(1, 2), 0);
        x.step(1, Due.SET, 1, 1, 0);
        x.locks(0);
        due.is("written back", x.walk(1, 2), 2);
        due.is("why", x.why(0), 3);
        due.is("field 0", x.why(1), 0);
    }

    private static void walkServed() {
        DriverBook x = chip();
        x.step(1, Due.PAUSE, -1, 2, 0);
        x.step(1, Due.SET, 0, 1, 0);
        due.is("the act clears the flag itself", x.walk(1, 0), 0);
        x.field(0, 4, 1, Due.PLAIN, 0);
        due.is("its lock holds the handler off", x.walk(1, 0), 3);
        due.is("why", x.why(0), 4);
        due.is("why, a field", x.why(1), -2);
        x.bare(1);
        x.step(1, Due.PAUSE, -1, 3, 0);
        x.event(0, 1, 3);
        due.is("two at once are served once", x.walk(1, 0), 2);
        due.is("why", x.why(0), 4);
        x.bare(0);
        due.is("a handler that doesn't clear it", x.walk(1, 0), 1);
    }

    private static void walkLeavesTheState() {
        DriverBook x = chip();
        x.field(2, 4, 2, Due.TAKEN, 3);
        x.field(3, 0, 4, Due.HELD, 3);
        x.field(3, 4, 4, Due.PULSE, 0);
        x.law(2, 1, 1, 99);
        x.step(1, Due.SET, 1, 5, 0);
        x.step(1, Due.SET, 4, 6, 0);
        x.step(1, Due.SET, 5, 7, 0);
        x.step(1, Due.GET, 2, 0, 0);
        x.event(2, 9, 2);
        x.event(0, 1, 3);
        x.write(1, 2);
        due.is("walk", x.walk(1, 0), 1);
        int[] counts = {4, 6, 1, 2, 1, 0, 2, 1, 0};
        for (int what = 0; what < counts.length; what++) {
            due.is("count " + what, x.count(what), counts[what]);
        }
        int[] values = {0, 2, 0, 3, 3, 0};
        for (int i = 0; i < values.length; i++) {
            due.is("value " + i, x.peek(i, 0), values[i]);
        }
        due.is("pending", x.peek(4, 1), 3);
        due.is("timer", x.peek(5, 2), 0);
        due.is("soft", x.peek(3, 3), 0);
        due.is("shadow 1", x.shadow(1), 0);
        due.is("shadow 3", x.shadow(3), 3);
        due.is("result", x.result(), 0);
        due.is("breaks", x.breaks(0), 0);
        x.write(1, 3);
        due.is("hits as ahead", x.breaks(0), 1);
        due.is("events as ahead", x.peek(2, 0), 9);
    }

    private static void why() {
        DriverBook x = chip();
        due.is("none", x.why(0), -1);
        due.is("none", x.why(1), -1);
        x.step(1, Due.PAUSE, -1, 1, 0);
        x.walk(1, 0);
        due.is("a walk that is well tells no t", x.why(0), -1);
        x.bare(0);
        x.walk(1, 0);
        due.is("why(0)", x.why(0), 4);
        due.is("why(1)", x.why(1), -2);
        due.is("why(2)", x.why(2), -1);
        due.is("why(-1)", x.why(-1), -1);
        x.step(0, Due.SET, 0, 3, 0);
        due.is("well again", x.walk(1, 0), 0);
        due.is("the last that told a t", x.why(0), 4);
        due.is("a refused walk", x.walk(1, 1), -4);
        x.power();
        x.field(3, 0, 1, 0, 0);
        due.is("power and field leave it", x.why(0), 4);
        due.is("refused begin", x.begin(9), -1);
        due.is("leaves it", x.why(0), 4);
        x.begin(4);
        due.is("begin doesn't", x.why(0), -1);
        due.is("begin doesn't", x.why(1), -1);
    }
}
