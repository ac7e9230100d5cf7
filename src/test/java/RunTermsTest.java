/** Parts II and III of the terms, INSTRUCTIONS and HANDLERS: a test for each sentence that names a bound, an order or an edge. */
public final class RunTermsTest {
    private static final int TIMEOUT = -5;
    private static final Due due = new Due();

    public static void main(String[] args) {
        pollsUpToLimitPlusOneReads();
        pollsUpToTheFirst();
        pollsByTheirMask();
        pollsEndAnActByTimeout();
        pausesOfOneToNine();
        picksBits();
        picksOfLoad();
        picksOfTaken();
        softsGetBitsBesides();
        softsOfHandReadsGetNothing();
        writesByNothing();
        writesByAcc();
        writesByShadow();
        shadowsOfPlainAndHeld();
        shadowsOfHandWritesStay();
        handlersLookAheadOfEachInstruction();
        handlersLookAheadOfEachFurtherRead();
        handlersLookAheadOfEachFurtherTick();
        handlersLookBehindATimeout();
        handlersLookBehindNoInstructions();
        handlersDontLookWhileLocked();
        handlersEightInARow();
        handlersNineTimes();
        handlersByNumber();
        handlersOfAnyBit();
        handlersOfFlagsAlone();
        handlersNotWithinAHandler();
        handlersToTheirTimeout();
        handlersWithTheirOwnAcc();
        handlersResultIsThrownAway();
        handlersOfTheActItself();
        handlersByHandNever();
        servedOneByOne();
        due.end("RunTermsTest");
    }

    /** STATUS 0 and TAKEN 1 in REGISTER 0, PLAIN 2 in REGISTER 1; ACT 0 AWAITS STATUS 0 to be 5, then SETS PLAIN 2. */
    private static DriverBook poll(int limit) {
        DriverBook x = new DriverBook();
        x.field(0, 4, 3, Due.STATUS, 0);
        x.field(0, 7, 2, Due.TAKEN, 0);
        x.field(1, 0, 4, Due.PLAIN, 0);
        x.act();
        x.step(0, Due.AWAIT, 0, 5, limit);
        x.step(0, Due.SET, 2, 9, 0);
        return x;
    }

    /** "up to limit + 1 READS": for each limit the last READ that is in time and the first that isn't. */
    private static void pollsUpToLimitPlusOneReads() {
        for (int limit = 0; limit <= 20; limit++) {
            DriverBook never = poll(limit);
            due.is("TIMEOUT", never.run(0), TIMEOUT);
            due.is("READS of limit " + limit, never.count(4), limit + 1);
            DriverBook late = poll(limit);
            late.event(0, 5, limit + 1);
            due.is("with the last READ's own TICK it is too late", late.run(0), TIMEOUT);
            due.is("READS", late.count(4), limit + 1);
            if (limit > 0) {
                DriverBook last = poll(limit);
                last.event(0, 5, limit);
                due.is("ahead of the last READ it is in time", last.run(0), limit + 2);
            }
        }
        DriverBook once = poll(0);
        once.event(0, 5, 1);
        once.wait(1);
        due.is("limit 0: one READ is in time", once.run(0), 2);
    }

    /** "up to the first whose bits of mask are value". */
    private static void pollsUpToTheFirst() {
        for (int tick = 1; tick <= 20; tick++) {
            DriverBook x = poll(20);
            x.event(0, 5, tick);
            x.event(0, 4, tick + 1);
            due.is("READS and a WRITE", x.run(0), tick + 2);
            due.is("what is behind it", x.peek(2, 0), 9);
        }
    }

    /** "whose bits of mask are value": all of the FIELD's bits, none beside them. */
    private static void pollsByTheirMask() {
        for (int v = 0; v < 8; v++) {
            DriverBook x = poll(0);
            x.event(0, v, 1);
            x.event(1, 3, 1);
            x.wait(1);
            due.is("a STATUS of " + v, x.run(0), v == 5 ? 2 : TIMEOUT);
        }
    }

    /** "if there is none, the ACT ends there by TIMEOUT". */
    private static void pollsEndAnActByTimeout() {
        DriverBook x = poll(1);
        due.is("TIMEOUT", x.run(0), TIMEOUT);
        due.is("what is behind it isn't done", x.peek(2, 0), 0);
        due.is("NOW", x.count(4), 2);
        x.event(0, 5, 3);
        x.wait(1);
        due.is("the next RUN is a new one", x.run(0), 2);
    }

    /** "3 PAUSE: so many TICKS pass." */
    private static void pausesOfOneToNine() {
        for (int n = 1; n <= 9; n++) {
            DriverBook x = new DriverBook();
            x.act();
            x.step(0, Due.PAUSE, -1, n, 0);
            due.is("a PAUSE of " + n, x.run(0), n);
            x.step(0, Due.PAUSE, -1, 9, 0);
            due.is("and 9", x.run(0), n + 9);
        }
    }

    /** "4 PICK f: RESULT becomes f's bits of ACC": a number of its width, wherever it stands. */
    private static void picksBits() {
        for (int low = 0; low <= 8; low++) {
            DriverBook x = new DriverBook();
            x.field(0, low, 8, Due.STATUS, 129);
            x.act();
            x.step(0, Due.GET, 0, 0, 0);
            due.is("one READ", x.run(0), 1);
            due.is("at bit " + low, x.result(), 129);
        }
        DriverBook y = new DriverBook();
        y.field(0, 0, 7, Due.PLAIN, 127);
        y.field(0, 7, 1, Due.PLAIN, 0);
        y.field(0, 8, 8, Due.PLAIN, 255);
        y.act();
        y.step(0, Due.GET, 1, 0, 0);
        y.run(0);
        due.is("none of its neighbours'", y.result(), 0);
    }

    private static void picksOfLoad() {
        DriverBook x = Scenes.kinds();
        x.step(0, Due.GET, 0, 0, 0);
        x.step(0, Due.GET, 6, 0, 0);
        x.write(0, 2 + (3 << 12));
        x.run(0);
        due.is("a LOAD is always 0", x.result(), 0);
    }

    /** "of a TAKEN f its SOFT, which becomes 0". */
    private static void picksOfTaken() {
        DriverBook x = new DriverBook();
        x.field(0, 0, 3, Due.TAKEN, 1);
        x.field(0, 3, 3, Due.TAKEN, 6);
        x.act();
        x.step(0, Due.GET, 0, 0, 0);
        x.run(0);
        due.is("its SOFT", x.result(), 1);
        due.is("it becomes 0", x.peek(0, 3), 0);
        due.is("another one's stays", x.peek(1, 3), 6);
        x.run(0);
        due.is("nothing came", x.result(), 0);
        x.bare(0);
        x.step(0, Due.GET, 1, 0, 0);
        x.run(0);
        due.is("what an earlier READ took", x.result(), 6);
        due.is("it becomes 0", x.peek(1, 3), 0);
    }

    /** "the bits of TAKEN fields in it are put into their SOFTS besides what is there": by READ and by POLL. */
    private static void softsGetBitsBesides() {
        DriverBook x = new DriverBook();
        x.field(0, 0, 3, Due.TAKEN, 1);
        x.field(0, 3, 1, Due.STATUS, 0);
        x.field(1, 0, 3, Due.TAKEN, 7);
        x.act();
        x.act();
        x.step(0, Due.GET, 1, 0, 0);
        x.step(1, Due.AWAIT, 1, 1, 1);
        x.run(0);
        due.is("the first", x.peek(0, 3), 1);
        x.event(0, 4, 2);
        x.wait(1);
        x.run(0);
        due.is("another bit besides", x.peek(0, 3), 5);
        x.event(0, 1, 4);
        x.wait(1);
        x.run(0);
        due.is("the same bit", x.peek(0, 3), 5);
        x.event(0, 2, 6);
        due.is("two READS of a POLL", x.run(1), TIMEOUT);
        due.is("the second one's", x.peek(0, 3), 7);
        due.is("another REGISTER's", x.peek(2, 3), 0);
        due.is("which still has its value", x.peek(2, 0), 7);
    }

    /** Promise 18: "A READ by hand (SOFTS get nothing)". */
    private static void softsOfHandReadsGetNothing() {
        DriverBook x = poll(0);
        x.event(1, 3, 1);
        x.wait(1);
        due.is("it is read", x.read(0), 3 << 7);
        due.is("no SOFT", x.peek(1, 3), 0);
        due.is("and gone", x.peek(1, 0), 0);
    }

    /** "PUT alone (by 0)": what KEEP of 0 leaves out is written as 0. */
    private static void writesByNothing() {
        DriverBook x = new DriverBook();
        x.field(0, 0, 4, Due.PLAIN, 15);
        x.field(0, 4, 4, Due.FLAG, 15);
        x.field(0, 8, 4, Due.STATUS, 15);
        x.act();
        x.step(0, Due.SET, 0, 0, 0);
        due.is("one WRITE", x.run(0), 1);
        due.is("SET to 0", x.peek(0, 0), 0);
        due.is("the FLAG gets a 0, which does nothing", x.peek(1, 0), 15);
        due.is("SHADOW", x.shadow(0), 0);
        x.bare(0);
        x.step(0, Due.SET, 0, 9, 0);
        x.step(0, Due.SET, 1, 6, 0);
        x.run(0);
        due.is("SET", x.peek(0, 0), 9);
        due.is("the FLAG's bits become 0", x.peek(1, 0), 9);
        due.is("SHADOW of the PLAIN one alone", x.shadow(0), 9);
    }

    /** "the bits of KEEP from ACC (by 1)": the chip's, not the SHADOW's. */
    private static void writesByAcc() {
        DriverBook x = new DriverBook();
        x.field(0, 0, 4, Due.PLAIN, 1);
        x.field(0, 4, 4, Due.PLAIN, 2);
        x.field(0, 8, 4, Due.FLAG, 15);
        x.field(0, 12, 4, Due.PULSE, 0);
        x.act();
        x.step(0, Due.SET, 0, 15, 0);
        x.write(0, 0xf0b0);
        due.is("READ and WRITE", x.run(0), 2);
        due.is("SET", x.peek(0, 0), 15);
        due.is("kept as the chip has it", x.peek(1, 0), 11);
        due.is("the FLAG isn't written back", x.peek(2, 0), 15);
        due.is("the PULSE isn't either", x.peek(3, 0), 0);
        due.is("SHADOW", x.shadow(0), 0xbf);
    }

    /** "from the SHADOW of r (by 2)": the SHADOW's, not the chip's. */
    private static void writesByShadow() {
        DriverBook x = new DriverBook();
        x.field(0, 0, 4, Due.PLAIN, 1);
        x.field(0, 4, 4, Due.HELD, 2);
        x.field(0, 8, 4, Due.PLAIN, 3);
        x.act();
        x.step(0, Due.SET, 0, 15, 0);
        x.write(0, 0xbcd);
        due.is("one WRITE", x.run(0), 1);
        due.is("SET", x.peek(0, 0), 15);
        due.is("PENDING by the SHADOW", x.peek(1, 1), 2);
        due.is("PLAIN by the SHADOW", x.peek(2, 0), 3);
        due.is("SHADOW", x.shadow(0), 0x32f);
    }

    /** "the SHADOW of r becomes its bits of PLAIN and HELD fields": no other's, no other REGISTER's. */
    private static void shadowsOfPlainAndHeld() {
        DriverBook x = new DriverBook();
        x.field(0, 0, 2, Due.PLAIN, 0);
        x.field(0, 2, 2, Due.FLAG, 0);
        x.field(0, 4, 2, Due.PULSE, 0);
        x.field(0, 6, 2, Due.HELD, 0);
        x.field(0, 8, 2, Due.LOAD, 0);
        x.field(1, 0, 8, Due.PLAIN, 77);
        x.act();
        for (int f = 0; f < 5; f++) {
            x.step(0, Due.SET, f, 3, 0);
        }
        x.run(0);
        due.is("of PLAIN and HELD", x.shadow(0), 3 + (3 << 6));
        due.is("another REGISTER's", x.shadow(1), 77);
    }

    /** Promise 19: "A WRITE by hand (the SHADOW gets nothing)". */
    private static void shadowsOfHandWritesStay() {
        DriverBook x = new DriverBook();
        x.field(0, 0, 4, Due.PLAIN, 5);
        x.field(0, 4, 4, Due.HELD, 6);
        due.is("NOW", x.write(0, 0xff), 1);
        due.is("as it was", x.shadow(0), 0x65);
    }

    /**
     * FLAG 0 in REGISTER 0 is up and never cleared: its HANDLER, ACT 0, has no STEPS, so each look is 8 SERVED and no
     * TICKS. PLAINS 1 and 2 in REGISTER 1, STATUS 3 in REGISTER 2. ACT 1 is the one that RUNS.
     */
    private static DriverBook looks() {
        DriverBook x = new DriverBook();
        x.field(0, 0, 1, Due.FLAG, 1);
        x.field(1, 0, 4, Due.PLAIN, 0);
        x.field(1, 4, 4, Due.PLAIN, 0);
        x.field(2, 0, 4, Due.STATUS, 0);
        x.act();
        x.act();
        x.handler(0, 0);
        return x;
    }

    /** "ahead of each INSTRUCTION .. and behind the last INSTRUCTION": READ, PICK, WRITE. */
    private static void handlersLookAheadOfEachInstruction() {
        DriverBook x = looks();
        x.step(1, Due.GET, 3, 0, 0);
        x.run(1);
        due.is("ahead of READ, ahead of PICK, behind it", x.count(5), 3 * 8);
        x.power();
        x.step(1, Due.SET, 1, 1, 0);
        x.step(1, Due.SET, 2, 2, 0);
        x.run(1);
        due.is("and ahead of a WRITE", x.count(5), 4 * 8);
    }

    /** "ahead of each further READ of a POLL". */
    private static void handlersLookAheadOfEachFurtherRead() {
        for (int limit = 0; limit <= 20; limit++) {
            DriverBook x = looks();
            if (limit > 0) {
                x.event(3, 5, limit);
            }
            x.step(1, Due.AWAIT, 3, limit > 0 ? 5 : 0, limit);
            due.is("READS", x.run(1), limit + 1);
            due.is("ahead of each, and behind the last", x.count(5), 8 * (limit + 2));
        }
    }

    /** "ahead of each further TICK of a PAUSE". */
    private static void handlersLookAheadOfEachFurtherTick() {
        for (int n = 1; n <= 9; n++) {
            DriverBook x = looks();
            x.step(1, Due.PAUSE, -1, n, 0);
            due.is("TICKS", x.run(1), n);
            due.is("ahead of each, and behind the last", x.count(5), 8 * (n + 1));
        }
    }

    /** "(also behind a TIMEOUT ..)". */
    private static void handlersLookBehindATimeout() {
        DriverBook x = looks();
        x.step(1, Due.AWAIT, 3, 5, 2);
        x.step(1, Due.PAUSE, -1, 9, 0);
        due.is("TIMEOUT", x.run(1), TIMEOUT);
        due.is("ahead of three READS, and behind it", x.count(5), 8 * 4);
        DriverBook y = looks();
        y.write(0, 1);
        y.step(0, Due.SET, 0, 1, 0);
        y.step(1, Due.AWAIT, 3, 5, 0);
        y.event(0, 1, 2);
        due.is("TIMEOUT", y.run(1), TIMEOUT);
        due.is("what came with the last READ is SERVED", y.count(5), 1);
        due.is("two TICKS and one ahead", y.count(4), 3);
    }

    /** An ACT without INSTRUCTIONS has no last one, but it is at its end: it looks once. */
    private static void handlersLookBehindNoInstructions() {
        DriverBook x = looks();
        due.is("no TICKS", x.run(1), 0);
        due.is("one look", x.count(5), 8);
    }

    /** "if it isn't LOCKED": ahead of the LOCK and behind the FREE, but not between. */
    private static void handlersDontLookWhileLocked() {
        DriverBook x = looks();
        x.step(1, Due.SET, 1, 1, 0);
        due.is("LOCK, READ, WRITE, FREE", x.code(1), 4);
        due.is("two TICKS", x.run(1), 2);
        due.is("ahead of LOCK, behind FREE", x.count(5), 2 * 8);
        x.power();
        x.locks(0);
        due.is("READ, WRITE", x.code(1), 2);
        due.is("two TICKS", x.run(1), 2);
        due.is("ahead of READ, ahead of WRITE, behind it", x.count(5), 3 * 8);
        x.power();
        x.locks(1);
        x.step(1, Due.SET, 1, 2, 0);
        x.run(1);
        due.is("between FREE and LOCK too", x.count(5), 3 * 8);
    }

    /** "then this is looked at again, at most 8 times in a row": a FLAG that is never cleared. */
    private static void handlersEightInARow() {
        DriverBook x = looks();
        x.step(0, Due.PAUSE, -1, 1, 0);
        due.is("eight TICKS", x.run(1), 8);
        due.is("eight", x.count(5), 8);
        x.step(1, Due.PAUSE, -1, 1, 0);
        due.is("eight ahead, one, eight behind", x.run(1), 17);
        due.is("sixteen more", x.count(5), 24);
    }

    /** n FLAGS that are up, eight in a REGISTER; the ACTS 0 .. 4 each clear every fifth of them, ACT 5 has no STEPS. */
    private static DriverBook flags(int n) {
        DriverBook x = new DriverBook();
        for (int i = 0; i < n; i++) {
            x.field(i / 8, i % 8, 1, Due.FLAG, 1);
        }
        for (int a = 0; a < 6; a++) {
            x.act();
        }
        for (int a = 0; a < 5; a++) {
            for (int i = a; i < n; i += 5) {
                x.step(a, Due.SET, i, 1, 0);
            }
        }
        return x;
    }

    /** Seven, eight and nine turns are needed: eight are made at one look, the ninth at the next one. */
    private static void handlersNineTimes() {
        for (int turns = 7; turns <= 9; turns++) {
            DriverBook x = new DriverBook();
            x.field(0, 0, 1, Due.FLAG, 1);
            x.act();
            x.act();
            x.step(0, Due.SET, 0, 1, 0);
            x.handler(0, 0);
            // each HANDLER clears the FLAG and passes one TICK, with which an EVENT brings it back
            for (int k = 1; k < turns; k++) {
                x.event(0, 1, k);
            }
            due.is("TICKS", x.run(1), Math.min(turns, 8));
            due.is("SERVED", x.count(5), Math.min(turns, 8));
            due.is("the FLAG is up", x.peek(0, 0), turns == 9 ? 1 : 0);
            due.is("the next look", x.run(1), turns == 9 ? 1 : 0);
            due.is("SERVED", x.count(5), turns);
            due.is("the FLAG is down", x.peek(0, 0), 0);
        }
    }

    /** "the first FLAG by number that has a HANDLER and whose value isn't 0". */
    private static void handlersByNumber() {
        DriverBook x = flags(12);
        // FLAG 0 has none; 5 and 3 have the HANDLERS 0 and 3, which clear 0, 5, 10 and 3, 8
        x.handler(5, 0);
        x.handler(3, 3);
        due.is("both, of two WRITES each", x.run(5), 4);
        due.is("SERVED", x.count(5), 2);
        int[] up = {0, 1, 1, 0, 1, 0, 1, 1, 0, 1, 0, 1};
        for (int i = 0; i < 12; i++) {
            due.is("FLAG " + i, x.peek(i, 0), up[i]);
        }
        DriverBook y = new DriverBook();
        y.field(0, 0, 1, Due.FLAG, 1);
        y.field(0, 1, 1, Due.FLAG, 1);
        y.field(1, 0, 4, Due.PLAIN, 0);
        y.act();
        y.act();
        y.act();
        y.step(0, Due.SET, 0, 1, 0);
        y.step(0, Due.SET, 2, 1, 0);
        y.step(1, Due.SET, 1, 1, 0);
        y.step(1, Due.SET, 2, 2, 0);
        y.handler(0, 0);
        y.handler(1, 1);
        y.run(2);
        due.is("the higher number is the later one", y.peek(2, 0), 2);
    }

    /** "whose value isn't 0": any of its bits. */
    private static void handlersOfAnyBit() {
        for (int bit = 0; bit < 8; bit++) {
            DriverBook x = new DriverBook();
            x.field(0, 4, 8, Due.FLAG, 1 << bit);
            x.act();
            x.act();
            x.step(0, Due.SET, 0, 255, 0);
            x.handler(0, 0);
            due.is("bit " + bit, x.run(1), 1);
            due.is("SERVED", x.count(5), 1);
            due.is("cleared", x.peek(0, 0), 0);
        }
    }

    private static void handlersOfFlagsAlone() {
        DriverBook x = new DriverBook();
        x.field(0, 0, 1, Due.STATUS, 1);
        x.field(0, 1, 1, Due.FLAG, 0);
        x.field(0, 2, 1, Due.FLAG, 1);
        x.act();
        x.step(0, Due.PAUSE, -1, 1, 0);
        x.handler(1, 0);
        due.is("a FLAG that is down", x.run(0), 1);
        due.is("nothing SERVED", x.count(5), 0);
        x.handler(1, -1);
        x.handler(2, 0);
        x.handler(2, -1);
        due.is("a HANDLER that is none any more", x.run(0), 1);
        due.is("nothing SERVED", x.count(5), 0);
    }

    /** "(not within a HANDLER)". */
    private static void handlersNotWithinAHandler() {
        DriverBook x = new DriverBook();
        x.field(0, 0, 1, Due.FLAG, 0);
        x.field(0, 1, 1, Due.FLAG, 1);
        x.field(1, 0, 4, Due.PLAIN, 0);
        for (int a = 0; a < 3; a++) {
            x.act();
        }
        x.step(0, Due.SET, 0, 1, 0);
        x.step(0, Due.SET, 2, 1, 0);
        x.step(1, Due.SET, 1, 1, 0);
        x.step(1, Due.PAUSE, -1, 5, 0);
        x.step(1, Due.SET, 2, 2, 0);
        x.handler(0, 0);
        x.handler(1, 1);
        x.event(0, 1, 2);
        due.is("7 and 2 TICKS", x.run(2), 9);
        due.is("the lower FLAG, that came up within the other's HANDLER, waited", x.peek(2, 0), 1);
        due.is("SERVED", x.count(5), 2);
    }

    /** "the CODE of its ACT runs whole (or to its TIMEOUT)". */
    private static void handlersToTheirTimeout() {
        DriverBook x = looks();
        x.step(0, Due.SET, 0, 1, 0);
        x.step(0, Due.AWAIT, 3, 5, 1);
        x.step(0, Due.PAUSE, -1, 9, 0);
        x.step(1, Due.PAUSE, -1, 1, 0);
        due.is("a WRITE, two READS and a PAUSE", x.run(1), 4);
        due.is("it is SERVED", x.count(5), 1);
        due.is("the ACT's end is no TIMEOUT", x.count(4), 4);
    }

    /** "with an ACC of its own": between an ACT's READ and its PICK or WRITE the HANDLER READS another number. */
    private static void handlersWithTheirOwnAcc() {
        DriverBook x = looks();
        x.field(3, 0, 8, Due.STATUS, 255);
        x.write(0, 1);
        x.step(0, Due.SET, 0, 1, 0);
        x.step(0, Due.GET, 4, 0, 0);
        x.step(1, Due.SET, 1, 3, 0);
        x.locks(0);
        x.write(1, 0x50);
        x.event(0, 1, 3);
        due.is("READ, HANDLER, WRITE", x.run(1), 4);
        due.is("SET", x.peek(1, 0), 3);
        due.is("kept by the ACT's ACC", x.peek(2, 0), 5);
    }

    /** "its RESULT is thrown away": RESULT is as it was ahead of the HANDLER. */
    private static void handlersResultIsThrownAway() {
        DriverBook x = looks();
        x.field(3, 0, 8, Due.STATUS, 200);
        x.field(3, 8, 8, Due.TAKEN, 3);
        x.step(0, Due.SET, 0, 1, 0);
        x.step(0, Due.GET, 4, 0, 0);
        due.is("the HANDLER's READ and PICK", x.run(1), 2);
        due.is("RESULT at first", x.result(), 0);
        due.is("its READ fills SOFTS", x.peek(5, 3), 3);
        x.step(1, Due.GET, 4, 0, 0);
        x.run(1);
        due.is("the ACT's RESULT", x.result(), 200);
        x.bare(0);
        x.step(0, Due.SET, 0, 1, 0);
        x.step(0, Due.GET, 5, 0, 0);
        x.bare(1);
        x.event(0, 1, 4);
        x.wait(1);
        x.run(1);
        due.is("still the ACT's", x.result(), 200);
        due.is("the HANDLER's PICK empties the SOFT", x.peek(5, 3), 0);
    }

    private static void handlersOfTheActItself() {
        DriverBook x = new DriverBook();
        x.field(0, 0, 1, Due.FLAG, 1);
        x.act();
        x.step(0, Due.SET, 0, 1, 0);
        x.step(0, Due.PAUSE, -1, 2, 0);
        x.handler(0, 0);
        due.is("once as the HANDLER, once as the ACT", x.run(0), 6);
        due.is("SERVED", x.count(5), 1);
    }

    /** "While an ACT RUNS": no READ, WRITE or TICK by hand runs a HANDLER. */
    private static void handlersByHandNever() {
        DriverBook x = looks();
        x.read(0);
        x.write(1, 1);
        x.wait(50);
        due.is("nothing SERVED", x.count(5), 0);
        due.is("NOW", x.count(4), 52);
        due.is("the FLAG is up", x.peek(0, 0), 1);
    }

    /** "SERVED grows by 1". */
    private static void servedOneByOne() {
        DriverBook x = looks();
        x.step(0, Due.SET, 0, 1, 0);
        for (int k = 1; k <= 5; k++) {
            x.run(1);
            due.is("SERVED", x.count(5), k);
            x.event(0, 1, x.count(4) + 1);
            x.wait(1);
        }
        x.power();
        due.is("nothing SERVED behind POWER", x.count(5), 0);
    }
}
