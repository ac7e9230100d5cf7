/**
 * Promises 15 to 26, their bounds and refusals: for each the last number that is allowed and the first that isn't, two
 * refusals at once, and behind each refused call that nothing has changed.
 */
public final class RefusedChipTest {
    private static final int MIN = Integer.MIN_VALUE, MAX = Integer.MAX_VALUE;
    private static final int NONE = -1, FULL = -3, KIND = -4, TIMEOUT = -5, LATE = -6;
    private static final Due due = new Due();
    private static final Twins twins = new Twins(due);

    public static void main(String[] args) {
        powerCountsFields();
        eventNoSuchField();
        eventNumberNotOfItsWidth();
        eventTickAboveLast();
        eventKind();
        eventLate();
        eventFull();
        eventFirstRefusal();
        eventBehindTheLastTick();
        runNone();
        runTimeoutStays();
        readNone();
        writeNoSuchRegister();
        writeNotSixteenBits();
        waitNotUpToFifty();
        peekNoSuchField();
        peekNoSuchWhat();
        peekKind();
        peekFirstRefusal();
        shadowNone();
        resultChangesNothing();
        breaksNoSuchWhat();
        breaksWithoutBreaks();
        walkNone();
        walkKind();
        walkTimeout();
        walkFull();
        walkFirstRefusal();
        walkLeavesAll();
        walkBehindTheLastEventTick();
        whyNone();
        whyWithoutWalk();
        due.end("RefusedChipTest");
    }

    // ---- promise 15 ----

    /** "how many FIELDS there are": none, and 24. */
    private static void powerCountsFields() {
        due.is("no fields", new DriverBook().power(), 0);
        due.is("24", Scenes.full().power(), 24);
        DriverBook x = Scenes.rich();
        due.is("11", x.power(), 11);
        twins.leaves("power() again", () -> {
            DriverBook y = Scenes.rich();
            y.power();
            return y;
        }, 11, DriverBook::power);
    }

    // ---- promise 16 ----

    private static void noEvent(Twins.Scene scene, int want, int field, int v, int tick) {
        twins.refused(Due.call("event", field, v, tick), scene, want, x -> x.event(field, v, tick));
    }

    /** In the rich scene, where NOW is 15 and four EVENTS are to come. */
    private static void anEvent(int field, int v, int tick) {
        DriverBook x = Scenes.rich();
        due.is(Due.call("event", field, v, tick), x.event(field, v, tick), 5);
        due.is("to come", x.count(6), 5);
    }

    /** "NONE: no such FIELD". */
    private static void eventNoSuchField() {
        for (int field : new int[] {-1, 11, 24, MIN, MAX}) {
            noEvent(Scenes::rich, NONE, field, 0, 20);
        }
        noEvent(DriverBook::new, NONE, 0, 0, 1);
        DriverBook x = new DriverBook();
        x.field(0, 0, 1, Due.STATUS, 0);
        due.is("field 0", x.event(0, 1, 1), 1);
        due.is("the last field", Scenes.full().event(23, 0, 20), KIND);
    }

    /** "v is not a number of its width": 6 STATUS and 2 TAKEN of three bits, 1 FLAG of two. */
    private static void eventNumberNotOfItsWidth() {
        for (int v : new int[] {-1, 8, MIN, MAX}) {
            noEvent(Scenes::rich, NONE, 6, v, 20);
            noEvent(Scenes::rich, NONE, 2, v, 20);
        }
        noEvent(Scenes::rich, NONE, 1, 4, 20);
        noEvent(Scenes::rich, NONE, 1, -1, 20);
        anEvent(6, 0, 20);
        anEvent(6, 7, 20);
        anEvent(2, 0, 20);
        anEvent(2, 7, 20);
        anEvent(1, 0, 20);
        anEvent(1, 3, 20);
        Twins.Scene wide = () -> {
            DriverBook x = new DriverBook();
            x.field(0, 0, 8, Due.FLAG, 0);
            x.field(0, 8, 1, Due.FLAG, 0);
            return x;
        };
        noEvent(wide, NONE, 0, 256, 1);
        noEvent(wide, NONE, 1, 2, 1);
        DriverBook x = wide.make();
        due.is("a byte's largest", x.event(0, 255, 1), 1);
        due.is("a bit's largest", x.event(1, 1, 1), 2);
        x.wait(1);
        due.is("all bits", x.read(0), 511);
    }

    /** "or the tick above 9999". */
    private static void eventTickAboveLast() {
        for (int tick : new int[] {10000, 10001, MAX}) {
            for (int field : new int[] {1, 2, 6}) {
                noEvent(Scenes::rich, NONE, field, 1, tick);
            }
        }
        anEvent(1, 1, 9999);
        anEvent(2, 1, 9999);
        anEvent(6, 1, 9999);
    }

    /** "KIND: it is neither STATUS, FLAG nor TAKEN". */
    private static void eventKind() {
        for (int field : new int[] {0, 3, 4, 5, 8, 10}) {
            noEvent(Scenes::rich, KIND, field, 0, 16);
            noEvent(Scenes::rich, KIND, field, 1, 9999);
        }
    }

    /** "LATE: the tick isn't above NOW": NOW is 15. */
    private static void eventLate() {
        for (int tick : new int[] {15, 14, 0, -1, MIN}) {
            noEvent(Scenes::rich, LATE, 6, 1, tick);
        }
        anEvent(6, 1, 16);
        noEvent(Scenes::kinds, LATE, 1, 1, 0);
        due.is("tick 1 at NOW 0", Scenes.kinds().event(1, 1, 1), 1);
        DriverBook x = Scenes.rich();
        x.event(6, 5, 16);
        x.wait(1);
        due.is("it comes with the next TICK", x.peek(6, 0), 5);
        due.is("and is no longer to come", x.count(6), 4);
        due.is("its tick is late now", x.event(6, 5, 16), LATE);
    }

    /** "FULL: 16 are to come." */
    private static void eventFull() {
        for (int field : new int[] {1, 2, 3}) {
            noEvent(Scenes::full, FULL, field, 1, 3);
            noEvent(Scenes::full, FULL, field, 1, 9999);
        }
        DriverBook x = Scenes.kinds();
        for (int k = 1; k <= 16; k++) {
            due.is("event " + k, x.event(1 + k % 3, 1, 5), k);
        }
        due.is("the 17th", x.event(1, 1, 5), FULL);
        x.wait(4);
        due.is("all are still to come", x.event(1, 1, 5), FULL);
        x.wait(1);
        due.is("none are to come", x.count(6), 0);
        due.is("room again", x.event(1, 1, 6), 1);
        DriverBook y = Scenes.full();
        y.wait(1);
        due.is("one of 16 came", y.count(6), 15);
        due.is("room for one", y.event(1, 1, 9999), 16);
        due.is("and no more", y.event(1, 1, 9999), FULL);
        DriverBook z = Scenes.full();
        z.power();
        due.is("no EVENTS behind POWER", z.event(1, 1, 1), 1);
    }

    /** NONE, KIND, LATE, FULL. */
    private static void eventFirstRefusal() {
        noEvent(Scenes::rich, NONE, 11, 0, 15);
        noEvent(Scenes::rich, NONE, 0, 16, 20);
        noEvent(Scenes::rich, NONE, 0, -1, 15);
        noEvent(Scenes::rich, NONE, 0, 0, 10000);
        noEvent(Scenes::rich, NONE, 6, 8, 15);
        noEvent(Scenes::rich, KIND, 0, 0, 15);
        noEvent(Scenes::rich, KIND, 5, 0, -1);
        noEvent(Scenes::full, NONE, 24, 0, 9);
        noEvent(Scenes::full, NONE, 1, 4, 9);
        noEvent(Scenes::full, NONE, 1, 1, 10000);
        noEvent(Scenes::full, NONE, 0, 4, 1);
        noEvent(Scenes::full, KIND, 0, 1, 9);
        noEvent(Scenes::full, KIND, 0, 1, 2);
        noEvent(Scenes::full, LATE, 1, 1, 2);
        noEvent(Scenes::full, LATE, 1, 1, 0);
    }

    /** NOW itself may be above 9999: a tick above 9999 is NONE, one that isn't is LATE. */
    private static void eventBehindTheLastTick() {
        due.is("the last tick", at(9998).event(0, 1, 9999), 1);
        noEvent(() -> at(9998), LATE, 0, 1, 9998);
        noEvent(() -> at(9998), NONE, 0, 1, 10000);
        noEvent(() -> at(9999), LATE, 0, 1, 9999);
        noEvent(() -> at(9999), NONE, 0, 1, 10000);
        noEvent(() -> at(10002), LATE, 0, 1, 9999);
        noEvent(() -> at(10002), NONE, 0, 1, 10000);
        noEvent(() -> at(10002), NONE, 0, 1, 10002);
        noEvent(() -> at(10002), NONE, 0, 1, 10003);
        noEvent(() -> at(10002), KIND, 1, 1, 9999);
    }

    /** STATUS 0, PLAIN 1, FLAG 2 with ACT 1 as its HANDLER, at a NOW of 9936 or more. */
    private static DriverBook at(int now) {
        DriverBook x = new DriverBook();
        x.field(0, 0, 2, Due.STATUS, 0);
        x.field(0, 2, 2, Due.PLAIN, 0);
        x.field(1, 0, 1, Due.FLAG, 0);
        x.act();
        for (int k = 0; k < 12; k++) {
            x.step(0, Due.PAUSE, -1, 9, 0);
        }
        x.act();
        x.step(1, Due.SET, 2, 1, 0);
        x.handler(2, 1);
        x.tape(0, 3, 64);
        x.play(0, 0, 64);
        x.play(0, 0, 28);
        due.is("92 acts of 108 TICKS", x.count(4), 9936);
        for (int left = now - 9936; left > 0; left -= 50) {
            x.wait(Math.min(left, 50));
        }
        due.is("NOW", x.count(4), now);
        return x;
    }

    // ---- promise 17 ----

    /** "NONE: no such ACT". */
    private static void runNone() {
        for (int act : new int[] {-1, 4, 6, MIN, MAX}) {
            twins.refused(Due.call("run", act), Scenes::rich, NONE, x -> x.run(act));
        }
        twins.refused("no acts", DriverBook::new, NONE, x -> x.run(0));
        due.is("the first act", Scenes.rich().run(0), 3);
        twins.leaves("an act without steps", Scenes::rich, 0, x -> x.run(2));
        due.is("the last act", Scenes.full().run(5), TIMEOUT);
    }

    /** "TIMEOUT: it ended by that (all that it did stays)." */
    private static void runTimeoutStays() {
        DriverBook x = new DriverBook();
        x.field(0, 0, 4, Due.PLAIN, 0);
        x.field(1, 0, 4, Due.STATUS, 3);
        x.field(1, 4, 2, Due.TAKEN, 2);
        x.law(0, 0, 0, 0);
        x.act();
        x.step(0, Due.SET, 0, 9, 0);
        x.step(0, Due.GET, 1, 0, 0);
        x.step(0, Due.AWAIT, 1, 5, 2);
        x.step(0, Due.SET, 0, 4, 0);
        due.is("TIMEOUT", x.run(0), TIMEOUT);
        due.is("its WRITE", x.peek(0, 0), 9);
        due.is("its SHADOW", x.shadow(0), 9);
        due.is("its RESULT", x.result(), 3);
        due.is("its SOFT", x.peek(2, 3), 2);
        due.is("its TICKS", x.count(4), 5);
        due.is("its BREAKS", x.breaks(0), 1);
    }

    // ---- promises 18 to 20 ----

    /** "NONE: no such REGISTER." */
    private static void readNone() {
        for (int r : new int[] {-1, 5, 8, MIN, MAX}) {
            twins.refused(Due.call("read", r), Scenes::rich, NONE, x -> x.read(r));
        }
        due.is("the first", Scenes.rich().read(0), 12);
        due.is("the last", Scenes.rich().read(4), 0x8000);
        twins.refused("read(4) at first", DriverBook::new, NONE, x -> x.read(4));
        due.is("read(3) at first", new DriverBook().read(3), 0);
    }

    /** "NONE: no such REGISTER". */
    private static void writeNoSuchRegister() {
        for (int r : new int[] {-1, 5, 8, MIN, MAX}) {
            twins.refused(Due.call("write", r, 0), Scenes::rich, NONE, x -> x.write(r, 0));
            twins.refused(Due.call("write", r, 65536), Scenes::rich, NONE, x -> x.write(r, 65536));
        }
        due.is("the first", Scenes.rich().write(0, 0), 16);
        due.is("the last", Scenes.rich().write(4, 0), 16);
        twins.refused("write(4, 0) at first", DriverBook::new, NONE, x -> x.write(4, 0));
        due.is("write(3, 0) at first", new DriverBook().write(3, 0), 1);
    }

    /** "NONE: .. not 0 .. 65535." */
    private static void writeNotSixteenBits() {
        for (int number : new int[] {-1, 65536, 65537, MIN, MAX}) {
            for (int r = 0; r < 5; r++) {
                int register = r;
                twins.refused(Due.call("write", r, number), Scenes::rich, NONE, x -> x.write(register, number));
            }
        }
        DriverBook x = Scenes.rich();
        due.is("0", x.write(3, 0), 16);
        due.is("all bits 0", x.read(3), 0);
        due.is("65535", x.write(3, 65535), 18);
        due.is("all bits 1", x.read(3), 255);
    }

    /** "NONE: not 0 .. 50." */
    private static void waitNotUpToFifty() {
        for (int n : new int[] {-1, 51, MIN, MAX}) {
            twins.refused(Due.call("wait", n), Scenes::rich, NONE, x -> x.wait(n));
        }
        twins.leaves("wait(0)", Scenes::rich, 15, x -> x.wait(0));
        due.is("wait(1)", Scenes.rich().wait(1), 16);
        due.is("wait(50)", Scenes.rich().wait(50), 65);
        DriverBook x = Scenes.kinds();
        x.event(1, 1, 49);
        x.event(1, 2, 50);
        x.event(1, 3, 51);
        x.wait(50);
        due.is("the 50th TICK's EVENT", x.peek(1, 0), 2);
        due.is("one is to come", x.count(6), 1);
    }

    // ---- promises 21 to 23 ----

    /** "NONE: no such FIELD". */
    private static void peekNoSuchField() {
        for (int field : new int[] {-1, 11, 24, MIN, MAX}) {
            for (int what = 0; what < 4; what++) {
                int w = what;
                twins.refused(Due.call("peek", field, what), Scenes::rich, NONE, x -> x.peek(field, w));
            }
        }
        due.is("the first", Scenes.rich().peek(0, 0), 12);
        due.is("the last", Scenes.rich().peek(10, 2), 1);
        due.is("the 24th", Scenes.full().peek(23, 0), 0);
        due.is("no fields", new DriverBook().peek(0, 0), NONE);
    }

    /** "NONE: .. no such .. what". */
    private static void peekNoSuchWhat() {
        for (int what : new int[] {-1, 4, MIN, MAX}) {
            for (int field = 0; field < 7; field++) {
                int f = field;
                twins.refused(Due.call("peek", field, what), Scenes::kinds, NONE, x -> x.peek(f, what));
            }
        }
    }

    /** "KIND: it has no such": PENDING of HELD, TIMER of PULSE, SOFT of TAKEN alone. */
    private static void peekKind() {
        int[] kindOf = {-1, Due.HELD, Due.PULSE, Due.TAKEN};
        for (int kind = 0; kind < 7; kind++) {
            due.is("each has a value", Scenes.kinds().peek(kind, 0), 0);
            for (int what = 1; what < 4; what++) {
                int k = kind;
                int w = what;
                if (kindOf[what] == kind) {
                    twins.leaves(Due.call("peek", kind, what), Scenes::kinds, 0, x -> x.peek(k, w));
                } else {
                    twins.refused(Due.call("peek", kind, what), Scenes::kinds, KIND, x -> x.peek(k, w));
                }
            }
        }
        twins.leaves("PENDING", Scenes::rich, 6, x -> x.peek(3, 1));
        twins.leaves("a value beside it", Scenes::rich, 7, x -> x.peek(3, 0));
        twins.leaves("TIMER", Scenes::rich, 6, x -> x.peek(5, 2));
        twins.leaves("SOFT", Scenes::rich, 1, x -> x.peek(2, 3));
    }

    /** NONE, KIND: a PLAIN field has none of the others, but there is no what 4 either. */
    private static void peekFirstRefusal() {
        twins.refused("peek(0, 4)", Scenes::rich, NONE, x -> x.peek(0, 4));
        twins.refused("peek(11, 1)", Scenes::rich, NONE, x -> x.peek(11, 1));
    }

    /** "NONE: no such REGISTER." */
    private static void shadowNone() {
        for (int r : new int[] {-1, 5, 8, MIN, MAX}) {
            twins.refused(Due.call("shadow", r), Scenes::rich, NONE, x -> x.shadow(r));
        }
        int[] shadows = {3, 5, 0, 0x54, 0};
        for (int r = 0; r < 5; r++) {
            int register = r;
            twins.leaves(Due.call("shadow", r), Scenes::rich, shadows[r], x -> x.shadow(register));
        }
        due.is("shadow(3) at first", new DriverBook().shadow(3), 0);
        due.is("shadow(4) at first", new DriverBook().shadow(4), NONE);
    }

    private static void resultChangesNothing() {
        twins.leaves("result()", Scenes::rich, 9, DriverBook::result);
        due.is("0 at first", new DriverBook().result(), 0);
    }

    // ---- promise 24 ----

    /** "NONE: no such what". */
    private static void breaksNoSuchWhat() {
        for (int what : new int[] {-1, 3, MIN, MAX}) {
            twins.refused(Due.call("breaks", what), Scenes::rich, NONE, x -> x.breaks(what));
            twins.refused(Due.call("breaks", what), DriverBook::new, NONE, x -> x.breaks(what));
        }
        twins.leaves("how many", Scenes::rich, 2, x -> x.breaks(0));
        twins.leaves("the first one's LAW", Scenes::rich, 0, x -> x.breaks(1));
        twins.leaves("the first one's NOW", Scenes::rich, 0, x -> x.breaks(2));
    }

    /** "NONE: .. (1, 2) there is none." */
    private static void breaksWithoutBreaks() {
        twins.leaves("none", Scenes::kinds, 0, x -> x.breaks(0));
        twins.refused("no LAW", Scenes::kinds, NONE, x -> x.breaks(1));
        twins.refused("no NOW", Scenes::kinds, NONE, x -> x.breaks(2));
        DriverBook x = Scenes.rich();
        x.power();
        due.is("none behind POWER", x.breaks(0), 0);
        due.is("no LAW behind POWER", x.breaks(1), NONE);
        due.is("no NOW behind POWER", x.breaks(2), NONE);
    }

    // ---- promise 25 ----

    private static void noWalk(Twins.Scene scene, int want, int act, int field) {
        twins.refused(Due.call("walk", act, field), scene, want, x -> x.walk(act, field));
    }

    /** "NONE: no such ACT, FIELD". */
    private static void walkNone() {
        for (int act : new int[] {-1, 4, 6, MIN, MAX}) {
            noWalk(Scenes::rich, NONE, act, 7);
        }
        for (int field : new int[] {-1, 11, 24, MIN, MAX}) {
            noWalk(Scenes::rich, NONE, 1, field);
        }
    }

    /** "KIND: it is no FLAG with a HANDLER": FLAG 1 has none. */
    private static void walkKind() {
        for (int field : new int[] {0, 1, 2, 3, 4, 5, 6}) {
            noWalk(Scenes::rich, KIND, 1, field);
        }
        noWalk(() -> {
            DriverBook x = Scenes.rich();
            x.handler(7, -1);
            return x;
        }, KIND, 1, 7);
        DriverBook x = Scenes.rich();
        x.handler(1, 2);
        due.is("FLAG 1 has one now", x.walk(2, 1), 0);
    }

    /** "TIMEOUT: the first RUN has one". */
    private static void walkTimeout() {
        noWalk(Scenes::rich, TIMEOUT, 3, 7);
        DriverBook x = Scenes.rich();
        x.event(6, 5, 16);
        due.is("none, by an EVENT in time for the second READ", x.walk(3, 7) == TIMEOUT ? 1 : 0, 0);
    }

    /** "FULL: 16 EVENTS are to come." */
    private static void walkFull() {
        for (int act = 0; act < 5; act++) {
            noWalk(Scenes::full, FULL, act, 1);
        }
        DriverBook x = Scenes.full();
        x.wait(1);
        due.is("15 are to come", x.count(6), 15);
        due.is("no FULL", x.walk(0, 1) == FULL ? 1 : 0, 0);
        Twins.Scene none = () -> {
            DriverBook y = Scenes.kinds();
            y.handler(2, 0);
            for (int k = 0; k < 16; k++) {
                y.event(1, 0, 500);
            }
            return y;
        };
        noWalk(none, FULL, 0, 2);
        DriverBook z = none.make();
        z.power();
        due.is("none are to come", z.walk(0, 2), 0);
    }

    /** NONE, KIND, TIMEOUT, FULL. */
    private static void walkFirstRefusal() {
        noWalk(Scenes::rich, NONE, 4, 0);
        noWalk(Scenes::rich, NONE, 4, 1);
        noWalk(Scenes::rich, NONE, 3, 11);
        noWalk(Scenes::rich, KIND, 3, 0);
        noWalk(Scenes::rich, KIND, 3, 1);
        noWalk(Scenes::full, NONE, 6, 1);
        noWalk(Scenes::full, NONE, 0, 24);
        noWalk(Scenes::full, NONE, 5, 24);
        noWalk(Scenes::full, KIND, 0, 0);
        noWalk(Scenes::full, KIND, 0, 9);
        noWalk(Scenes::full, KIND, 5, 9);
        noWalk(Scenes::full, TIMEOUT, 5, 1);
    }

    /** "(the STATE is as ahead of it)": a walk that is well changes nothing, one that told a t nothing but why(). */
    private static void walkLeavesAll() {
        twins.leaves("no TICKS", Scenes::rich, 0, x -> x.walk(2, 7));
        Twins.Scene locked = () -> {
            DriverBook x = Scenes.rich();
            x.locks(1);
            x.bare(1);
            x.step(1, Due.PAUSE, -1, 1, 0);
            x.step(1, Due.GET, 0, 0, 0);
            return x;
        };
        twins.leaves("well", locked, 0, x -> x.walk(1, 7));
        // this scene's last WALK told the very same
        Twins.Scene told = () -> {
            DriverBook x = locked.make();
            x.locks(0);
            x.bare(0);
            x.walk(1, 7);
            return x;
        };
        twins.leaves("told a t", told, 1, x -> x.walk(1, 7));
    }

    /** An EVENT of a WALK is at NOW + t, also above 9999. */
    private static void walkBehindTheLastEventTick() {
        for (int now : new int[] {9990, 9999, 10005}) {
            DriverBook x = at(now);
            due.is("well", x.walk(0, 2), 0);
            x.bare(1);
            due.is("never cleared", x.walk(0, 2), 1);
            x.step(1, Due.SET, 2, 1, 0);
            x.bare(0);
            x.step(0, Due.PAUSE, -1, 9, 0);
            x.step(0, Due.SET, 1, 2, 0);
            x.law(2, 1, 2, 3);
            due.is("at NOW + 8 the WRITE is too soon", x.walk(0, 2), 8);
            due.is("why", x.why(0), 2);
        }
    }

    // ---- promise 26 ----

    /** "NONE: .. no such what." */
    private static void whyNone() {
        for (int what : new int[] {-1, 2, MIN, MAX}) {
            twins.refused(Due.call("why", what), Scenes::rich, NONE, x -> x.why(what));
        }
        twins.leaves("which", Scenes::rich, 3, x -> x.why(0));
        twins.leaves("the first FIELD", Scenes::rich, 9, x -> x.why(1));
    }

    /** "NONE: there was none": no WALK that told a t since begin(). */
    private static void whyWithoutWalk() {
        for (int what : new int[] {-1, 0, 1, 2}) {
            twins.refused(Due.call("why", what), Scenes::full, NONE, x -> x.why(what));
        }
        DriverBook x = Scenes.full();
        x.power();
        x.bare(0);
        due.is("a WALK that is well", x.walk(0, 1), 0);
        due.is("told no t", x.why(0), NONE);
        due.is("a refused one", x.walk(0, 0), KIND);
        due.is("told none either", x.why(0), NONE);
        DriverBook y = Scenes.rich();
        y.power();
        due.is("power() keeps it", y.why(0), 3);
        y.begin(5);
        due.is("begin() doesn't", y.why(0), NONE);
        due.is("begin() doesn't", y.why(1), NONE);
    }
}
