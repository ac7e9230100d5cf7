/** Part IV of the terms, the WALK: a test for each sentence that names a bound, an order or an edge. */
public final class WalkTermsTest {
    private static final Due due = new Due();

    public static void main(String[] args) {
        noTicksAreWell();
        fromOne();
        upToAllTicks();
        theLeastTick();
        ticksOfHandlersCount();
        fromTheStateEachTime();
        theFlagGetsBitZero();
        withTheEventsOfTheState();
        withFifteenEvents();
        noTimeout();
        aHandlersTimeoutIsNone();
        noMoreBreaks();
        breaksOfTheFirstRunCount();
        valuesTheActSets();
        valuesTheHandlerSets();
        valuesBothSet();
        valuesNeitherSets();
        pendingOfHeld();
        otherKindsAreNotLookedAt();
        theFirstFieldByNumber();
        fieldZeroToo();
        theLastOfTwentyFourToo();
        servedOneMore();
        servedOneMoreThanBehindTheFirstRun();
        theFirstOfTheFour();
        whyOfTheLast();
        due.end("WalkTermsTest");
    }

    /**
     * FLAG 0 of 8 bits in REGISTER 0 with ACT 0 as its HANDLER, which clears all its bits; PLAINS 1 and 2 in REGISTER 1,
     * STATUS 3 in REGISTER 2, HELDS 4 and 5 in REGISTER 3. ACT 1 is the one that is walked.
     */
    private static DriverBook chip() {
        DriverBook x = new DriverBook();
        x.field(0, 0, 8, Due.FLAG, 0);
        x.field(1, 0, 4, Due.PLAIN, 1);
        x.field(1, 4, 4, Due.PLAIN, 2);
        x.field(2, 0, 4, Due.STATUS, 0);
        x.field(3, 0, 4, Due.HELD, 3);
        x.field(3, 4, 4, Due.HELD, 4);
        x.act();
        x.act();
        x.step(0, Due.SET, 0, 255, 0);
        x.handler(0, 0);
        return x;
    }

    private static void walk(String what, DriverBook x, int t, int rule, int field) {
        due.is(what, x.walk(1, 0), t);
        due.is(what + ": why(0)", x.why(0), rule);
        due.is(what + ": why(1)", x.why(1), field);
    }

    /** "T TICKS. For t from 1 to T": none, if T is 0; a FLAG that is up makes a HANDLER's TICKS. */
    private static void noTicksAreWell() {
        DriverBook x = chip();
        due.is("no STEPS", x.walk(1, 0), 0);
        x.bare(0);
        due.is("no STEPS, a HANDLER that clears nothing", x.walk(1, 0), 0);
        x.step(1, Due.PAUSE, -1, 1, 0);
        walk("one TICK", x, 1, 4, -2);
    }

    /** "from 1": what isn't well at the first TICK is told. */
    private static void fromOne() {
        DriverBook x = chip();
        x.step(1, Due.PAUSE, -1, 9, 0);
        x.event(0, 1, 1);
        walk("two at tick 1 are SERVED once", x, 1, 4, -2);
    }

    /** "to T": what isn't well at the last TICK alone is told. */
    private static void upToAllTicks() {
        for (int ticks = 2; ticks <= 9; ticks++) {
            DriverBook x = chip();
            x.step(1, Due.PAUSE, -1, ticks, 0);
            due.is("well", x.walk(1, 0), 0);
            x.event(0, 1, ticks);
            walk("two at the last tick are SERVED once", x, ticks, 4, -2);
        }
    }

    /** "the least t at which not". */
    private static void theLeastTick() {
        for (int tick = 1; tick <= 8; tick++) {
            DriverBook x = chip();
            x.step(1, Due.PAUSE, -1, 9, 0);
            x.event(0, 1, tick);
            x.event(0, 1, 9);
            walk("at " + tick + " and at 9", x, tick, 4, -2);
        }
    }

    /** "the ACT RUNS once: T TICKS": those of its HANDLERS are among them. */
    private static void ticksOfHandlersCount() {
        DriverBook x = chip();
        x.field(0, 8, 1, Due.FLAG, 0);
        x.act();
        x.step(2, Due.SET, 6, 1, 0);
        x.step(2, Due.PAUSE, -1, 3, 0);
        x.handler(6, 2);
        x.step(1, Due.PAUSE, -1, 1, 0);
        x.law(0, 0, 3, 1);
        x.event(6, 1, 1);
        due.is("well", x.walk(1, 0), 0);
        x.event(3, 1, 5);
        // FLAG 6 makes T 5; from t = 2 on FLAG 0 comes up within its HANDLER and is cleared at NOW 5, where a LAW forbids it
        walk("a TICK of the HANDLER", x, 2, 2, -2);
    }

    /** "from the STATE again": nothing of an earlier RUN is left for the next one. */
    private static void fromTheStateEachTime() {
        DriverBook x = chip();
        x.law(0, 1, 1, 9);
        x.step(1, Due.PAUSE, -1, 1, 0);
        x.step(1, Due.SET, 1, 9, 0);
        // a second RUN from where the first one ended would HIT nothing and one behind a changed value would BREAK
        due.is("well at each", x.walk(1, 0), 0);
        x.write(1, 0x29);
        x.bare(1);
        x.step(1, Due.SET, 1, 3, 0);
        walk("each RUN BREAKS it", x, 1, 2, -2);
        due.is("the STATE's BREAKS", x.breaks(0), 0);
    }

    /** "f gets bit 0". */
    private static void theFlagGetsBitZero() {
        for (int bit = 0; bit < 8; bit++) {
            DriverBook x = chip();
            x.bare(0);
            x.step(0, Due.SET, 0, 1 << bit, 0);
            x.step(1, Due.PAUSE, -1, 1, 0);
            due.is("a HANDLER that clears bit " + bit, x.walk(1, 0), bit == 0 ? 0 : 1);
        }
    }

    /** "with one EVENT more": those of the STATE come too. */
    private static void withTheEventsOfTheState() {
        DriverBook x = chip();
        x.step(1, Due.AWAIT, 3, 6, 4);
        due.is("TIMEOUT without it", x.walk(1, 0), -5);
        x.event(3, 6, 4);
        due.is("in time", x.walk(1, 0), 0);
        due.is("it is still to come", x.count(6), 1);
    }

    /** "FULL: 16 EVENTS are to come": with 15 there is room for one more. */
    private static void withFifteenEvents() {
        DriverBook x = chip();
        x.step(1, Due.PAUSE, -1, 3, 0);
        for (int k = 0; k < 15; k++) {
            x.event(3, 1, 900);
        }
        due.is("well", x.walk(1, 0), 0);
        x.bare(0);
        walk("the 16th comes", x, 1, 4, -2);
        x.event(3, 1, 900);
        due.is("16", x.walk(1, 0), -3);
        due.is("why is as it was", x.why(0), 4);
    }

    /** "(1) it had no TIMEOUT". */
    private static void noTimeout() {
        DriverBook x = chip();
        x.step(0, Due.PAUSE, -1, 9, 0);
        x.step(1, Due.PAUSE, -1, 3, 0);
        x.step(1, Due.AWAIT, 3, 6, 0);
        x.event(3, 6, 3);
        x.event(3, 7, 4);
        // ahead of the READ at 3 the HANDLER comes for t = 1 .. 3, at t = 4 it comes behind it
        walk("the HANDLER makes it late", x, 1, 1, -2);
        x.power();
        x.event(3, 6, 3);
        due.is("the STATUS stays", x.walk(1, 0), 0);
    }

    private static void aHandlersTimeoutIsNone() {
        DriverBook x = chip();
        x.step(0, Due.AWAIT, 3, 9, 0);
        x.step(1, Due.PAUSE, -1, 2, 0);
        due.is("the ACT has none", x.walk(1, 0), 0);
    }

    /** "(2) there are no more BREAKS than in the STATE". */
    private static void noMoreBreaks() {
        DriverBook x = chip();
        x.law(1, 0, 3, 0);
        x.step(1, Due.PAUSE, -1, 4, 0);
        x.event(3, 1, 3);
        walk("the HANDLER's WRITE at 3 BREAKS it", x, 3, 2, -2);
        DriverBook y = chip();
        y.law(1, 1, 3, 1);
        y.write(1, 0x25);
        due.is("a BREAK of the STATE", y.breaks(0), 1);
        y.step(1, Due.PAUSE, -1, 4, 0);
        due.is("it isn't more", y.walk(1, 0), 0);
    }

    /** "than in the STATE": not than behind the first RUN. */
    private static void breaksOfTheFirstRunCount() {
        DriverBook x = chip();
        x.law(1, 1, 3, 1);
        x.step(1, Due.SET, 1, 9, 0);
        walk("the first RUN has as many", x, 1, 2, -2);
    }

    /** "(3) .. what the ACT SETS it to last, if the HANDLER's ACT doesn't SET it". */
    private static void valuesTheActSets() {
        DriverBook x = chip();
        x.step(1, Due.SET, 1, 7, 0);
        x.step(1, Due.PAUSE, -1, 1, 0);
        x.step(1, Due.SET, 1, 9, 0);
        due.is("the last", x.walk(1, 0), 0);
        x.step(1, Due.SET, 1, 0, 0);
        due.is("the last is 0", x.walk(1, 0), 0);
        DriverBook y = chip();
        y.step(0, Due.SET, 2, 5, 0);
        y.step(1, Due.SET, 1, 9, 0);
        y.locks(0);
        // at t = 1 the HANDLER comes between READ and WRITE: its SET of 2 is written over
        walk("the HANDLER's is lost", y, 1, 3, 2);
        y.locks(1);
        due.is("with LOCKS it isn't", y.walk(1, 0), 0);
    }

    /** "what the HANDLER's ACT SETS it to last, if the ACT doesn't". */
    private static void valuesTheHandlerSets() {
        DriverBook x = chip();
        x.step(0, Due.SET, 1, 7, 0);
        x.step(0, Due.SET, 1, 8, 0);
        x.step(1, Due.PAUSE, -1, 2, 0);
        due.is("the last", x.walk(1, 0), 0);
        x.step(0, Due.SET, 1, 0, 0);
        due.is("the last is 0", x.walk(1, 0), 0);
        x.step(0, Due.AWAIT, 3, 9, 0);
        x.step(0, Due.SET, 1, 3, 0);
        walk("one that its TIMEOUT never comes to", x, 1, 3, 1);
    }

    /** "either of these if both do". */
    private static void valuesBothSet() {
        DriverBook x = chip();
        x.step(0, Due.SET, 1, 7, 0);
        x.step(1, Due.PAUSE, -1, 1, 0);
        x.step(1, Due.SET, 1, 9, 0);
        x.step(1, Due.PAUSE, -1, 1, 0);
        due.is("the ACT's or the HANDLER's", x.walk(1, 0), 0);
        DriverBook y = chip();
        y.step(0, Due.SET, 1, 7, 0);
        y.step(0, Due.PAUSE, -1, 1, 0);
        y.step(0, Due.SET, 1, 8, 0);
        y.step(0, Due.AWAIT, 3, 9, 0);
        y.step(0, Due.SET, 1, 6, 0);
        y.step(1, Due.SET, 1, 9, 0);
        y.step(1, Due.PAUSE, -1, 1, 0);
        walk("neither of both: the HANDLER's last but one", y, 1, 3, 1);
    }

    /** "as in the STATE if neither". */
    private static void valuesNeitherSets() {
        DriverBook x = chip();
        x.write(1, 0x76);
        x.step(1, Due.PAUSE, -1, 2, 0);
        due.is("not its RESET", x.walk(1, 0), 0);
        // REGISTER 1 becomes SHADOWED: a SET of 1 writes the SHADOW's 2, which the STATE's isn't
        x.field(1, 8, 1, Due.TAKEN, 0);
        x.write(1, 0x76);
        x.step(1, Due.SET, 1, 5, 0);
        walk("by the SHADOW", x, 1, 3, 2);
    }

    /** "and each HELD one's PENDING": not its value. */
    private static void pendingOfHeld() {
        DriverBook x = chip();
        x.step(1, Due.PAUSE, -1, 1, 0);
        x.step(1, Due.SET, 4, 9, 0);
        due.is("PENDING is SET, the value stays", x.walk(1, 0), 0);
        x.step(0, Due.SET, 5, 8, 0);
        due.is("the HANDLER SETS the other", x.walk(1, 0), 0);
        x.write(3, 0);
        due.is("the HANDLER SETS it back each time", x.walk(1, 0), 0);
        x.bare(0);
        x.step(0, Due.SET, 0, 255, 0);
        walk("a PENDING that the SHADOW doesn't know", x, 1, 3, 5);
        DriverBook y = chip();
        y.field(0, 8, 1, Due.LOAD, 0);
        y.write(3, 0x56);
        y.step(0, Due.SET, 6, 1, 0);
        y.step(1, Due.PAUSE, -1, 1, 0);
        due.is("a LOAD changes values, no PENDING", y.walk(1, 0), 0);
    }

    /** "each PLAIN field's value, and each HELD one's PENDING": no STATUS, FLAG, TAKEN or PULSE is looked at. */
    private static void otherKindsAreNotLookedAt() {
        DriverBook x = chip();
        x.field(2, 4, 4, Due.TAKEN, 9);
        x.field(2, 8, 4, Due.PULSE, 0);
        x.field(2, 12, 2, Due.FLAG, 3);
        x.step(0, Due.GET, 3, 0, 0);
        x.step(0, Due.SET, 7, 5, 0);
        x.step(0, Due.SET, 8, 1, 0);
        x.step(1, Due.PAUSE, -1, 3, 0);
        x.event(3, 7, 2);
        due.is("well", x.walk(1, 0), 0);
    }

    /** "for (3) the first FIELD by number". */
    private static void theFirstFieldByNumber() {
        DriverBook x = chip();
        x.step(0, Due.AWAIT, 3, 9, 0);
        x.step(1, Due.PAUSE, -1, 1, 0);
        x.step(0, Due.SET, 5, 1, 0);
        walk("5", x, 1, 3, 5);
        x.step(0, Due.SET, 2, 1, 0);
        walk("2 ahead of 5", x, 1, 3, 2);
        x.step(0, Due.SET, 1, 0, 0);
        walk("1 ahead of both", x, 1, 3, 1);
        x.step(0, Due.SET, 4, 0, 0);
        walk("1 still", x, 1, 3, 1);
    }

    /** FIELD 0 is looked at like any other. */
    private static void fieldZeroToo() {
        for (int kind : new int[] {Due.PLAIN, Due.HELD}) {
            DriverBook x = new DriverBook();
            x.field(0, 0, 4, kind, 5);
            x.field(1, 0, 1, Due.FLAG, 0);
            x.field(2, 0, 1, Due.STATUS, 0);
            x.act();
            x.act();
            x.step(0, Due.SET, 1, 1, 0);
            x.step(0, Due.AWAIT, 2, 1, 0);
            x.step(0, Due.SET, 0, 6, 0);
            x.handler(1, 0);
            x.step(1, Due.PAUSE, -1, 1, 0);
            due.is("one that its TIMEOUT never comes to", x.walk(1, 1), 1);
            due.is("why(0)", x.why(0), 3);
            due.is("why(1)", x.why(1), 0);
        }
    }

    /** FIELD 23 too, and nothing behind it: a WALK of 24 FIELDS, of which the last one is PLAIN or HELD. */
    private static void theLastOfTwentyFourToo() {
        for (int kind : new int[] {Due.PLAIN, Due.HELD}) {
            DriverBook x = new DriverBook();
            x.field(0, 0, 1, Due.FLAG, 0);
            x.field(0, 1, 1, Due.STATUS, 0);
            for (int f = 2; f < 24; f++) {
                due.is("field", x.field(1 + (f - 2) / 8, f % 8, 1, kind, 1), f);
            }
            x.act();
            x.act();
            x.step(0, Due.SET, 0, 1, 0);
            x.handler(0, 0);
            x.step(1, Due.PAUSE, -1, 1, 0);
            x.step(1, Due.SET, 2, 0, 0);
            due.is("well", x.walk(1, 0), 0);
            x.step(0, Due.AWAIT, 1, 1, 0);
            x.step(0, Due.SET, 23, 0, 0);
            walk("one that its TIMEOUT never comes to", x, 1, 3, 23);
            x.bare(0);
            walk("never cleared", x, 1, 4, -2);
        }
    }

    /** "(4) SERVED is one more": neither none nor two. */
    private static void servedOneMore() {
        DriverBook none = chip();
        none.step(1, Due.PAUSE, -1, 2, 0);
        none.step(1, Due.SET, 0, 1, 0);
        none.field(0, 8, 1, Due.PLAIN, 0);
        // LOCKED between its READ and its WRITE, the ACT clears the FLAG itself
        walk("none", none, 3, 4, -2);
        DriverBook two = chip();
        two.bare(0);
        two.step(0, Due.GET, 3, 0, 0);
        two.step(1, Due.PAUSE, -1, 2, 0);
        walk("eight and more", two, 1, 4, -2);
        DriverBook twice = chip();
        twice.field(2, 4, 1, Due.PULSE, 0);
        twice.done(6, 0);
        twice.period(6, 1);
        twice.step(0, Due.SET, 6, 1, 0);
        twice.step(1, Due.PAUSE, -1, 2, 0);
        walk("its PULSE calls it again and again", twice, 1, 4, -2);
    }

    /** "than behind the first RUN": which may have SERVED others, and the STATE too. */
    private static void servedOneMoreThanBehindTheFirstRun() {
        DriverBook x = chip();
        x.event(0, 1, 1);
        x.wait(1);
        x.run(1);
        due.is("SERVED in the STATE", x.count(5), 1);
        x.step(1, Due.PAUSE, -1, 3, 0);
        x.event(0, 1, 20);
        due.is("well", x.walk(1, 0), 0);
        x.event(0, 2, 4);
        // the HANDLER's WRITE clears at 4, ahead of the TICK to 5; so t = 2 comes at once with it and no other does
        walk("one more than one", x, 2, 4, -2);
    }

    /** "which of (1) to (4) isn't well there, the first". */
    private static void theFirstOfTheFour() {
        // all four: the HANDLER never clears, BREAKS a LAW, ends ahead of its last SET, and makes the ACT late
        DriverBook x = chip();
        x.bare(0);
        x.law(1, 1, 3, 15);
        x.step(0, Due.SET, 1, 3, 0);
        x.step(0, Due.AWAIT, 3, 9, 0);
        x.step(0, Due.SET, 1, 4, 0);
        x.step(1, Due.PAUSE, -1, 1, 0);
        x.step(1, Due.AWAIT, 3, 6, 0);
        x.event(3, 6, 1);
        x.event(3, 7, 2);
        walk("(1) of all", x, 1, 1, -2);
        x.bare(1);
        x.step(1, Due.PAUSE, -1, 1, 0);
        walk("(2) of (2), (3), (4)", x, 1, 2, -2);
        x.power();
        x.event(3, 15, 1);
        walk("(3) of (3), (4)", x, 1, 3, 1);
        x.bare(0);
        walk("(4) alone", x, 1, 4, -2);
    }

    /** "Of the last WALK since begin() that told a t". */
    private static void whyOfTheLast() {
        DriverBook x = chip();
        x.step(0, Due.AWAIT, 3, 9, 0);
        x.step(0, Due.SET, 2, 9, 0);
        x.step(1, Due.PAUSE, -1, 1, 0);
        walk("(3)", x, 1, 3, 2);
        x.bare(0);
        walk("(4) behind (3): no FIELD", x, 1, 4, -2);
        x.step(0, Due.SET, 0, 255, 0);
        due.is("well", x.walk(1, 0), 0);
        due.is("the last that told a t", x.why(0), 4);
        due.is("a TIMEOUT", x.step(1, Due.AWAIT, 3, 9, 0), 2);
        due.is("tells none", x.walk(1, 0), -5);
        due.is("the last that told a t", x.why(0), 4);
        x.begin(4);
        due.is("none since begin()", x.why(0), -1);
    }
}
