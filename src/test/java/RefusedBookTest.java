/**
 * Promises 2 to 14, their bounds and refusals: for each the last number that is allowed and the first that isn't, two
 * refusals at once, and behind each refused call that nothing has changed.
 */
public final class RefusedBookTest {
    private static final int MIN = Integer.MIN_VALUE, MAX = Integer.MAX_VALUE;
    private static final int NONE = -1, OVERLAP = -2, FULL = -3, KIND = -4;
    private static final Due due = new Due();
    private static final Twins twins = new Twins(due);

    public static void main(String[] args) {
        beginNotOneToEight();
        fieldNoSuchRegister();
        fieldNoSuchKind();
        fieldLowBelowZero();
        fieldWidthNotOneToEight();
        fieldAboveSixteenBits();
        fieldResetNotOfItsWidth();
        fieldResetOfPulseOrLoad();
        fieldOverlap();
        fieldFull();
        fieldFirstRefusal();
        periodNoSuchField();
        periodNotOneToNine();
        periodKind();
        periodFirstRefusal();
        doneNoSuchField();
        doneKind();
        doneFirstRefusal();
        lawNoSuchKind();
        lawNoSuchField();
        lawNumberNotAByte();
        lawFull();
        lawFirstRefusal();
        actFull();
        stepNoSuchAct();
        stepNoSuchKind();
        stepNoSuchField();
        stepNumberOfSetAndAwait();
        stepNumberOfGet();
        stepNumberOfPause();
        stepLimitOfAwait();
        stepLimitOfOthers();
        stepKind();
        stepFull();
        stepFirstRefusal();
        bareNone();
        handlerNoSuchField();
        handlerNoSuchAct();
        handlerKind();
        handlerFirstRefusal();
        locksNone();
        codeNone();
        opNone();
        sameNone();
        due.end("RefusedBookTest");
    }

    // ---- promise 2 ----

    /** "NONE: not 1 .. 8." */
    private static void beginNotOneToEight() {
        for (int r : new int[] {0, 9, -1, MIN, MAX}) {
            twins.refused(Due.call("begin", r), Scenes::rich, NONE, x -> x.begin(r));
            twins.refused(Due.call("begin", r), DriverBook::new, NONE, x -> x.begin(r));
        }
        for (int r = 1; r <= 8; r++) {
            DriverBook x = Scenes.rich();
            due.is(Due.call("begin", r), x.begin(r), r);
            due.is("the registers", x.count(0), r);
            due.is("the last register", x.read(r - 1), 0);
            due.is("none behind it", x.read(r), NONE);
        }
    }

    // ---- promise 3 ----

    private static void noField(Twins.Scene scene, int want, int register, int low, int width, int kind, int reset) {
        twins.refused(Due.call("field", register, low, width, kind, reset), scene, want,
                x -> x.field(register, low, width, kind, reset));
    }

    /** In the rich scene: REGISTERS 0 .. 4; the bits 9 .. 15 of REGISTER 0 and 0 .. 14 of REGISTER 4 are free. */
    private static void aField(int register, int low, int width, int kind, int reset) {
        DriverBook x = Scenes.rich();
        due.is(Due.call("field", register, low, width, kind, reset), x.field(register, low, width, kind, reset), 11);
        due.is("its RESET", x.peek(11, 0), reset);
        due.is("its KIND", x.peek(11, 2), kind == Due.PULSE ? 0 : KIND);
        due.is("its bits", x.read(register) & (1 << low), kind == Due.LOAD ? 0 : (reset & 1) << low);
    }

    /** "NONE: no such REGISTER". */
    private static void fieldNoSuchRegister() {
        for (int r : new int[] {-1, 5, 8, MIN, MAX}) {
            noField(Scenes::rich, NONE, r, 9, 1, Due.PLAIN, 0);
        }
        aField(0, 9, 1, Due.PLAIN, 1);
        aField(4, 9, 1, Due.PLAIN, 1);
        noField(DriverBook::new, NONE, 4, 0, 1, Due.PLAIN, 0);
        due.is("register 3 at first", new DriverBook().field(3, 0, 1, Due.PLAIN, 0), 0);
    }

    /** "NONE: no such .. KIND". */
    private static void fieldNoSuchKind() {
        for (int kind : new int[] {-1, 7, MIN, MAX}) {
            noField(Scenes::rich, NONE, 0, 9, 1, kind, 0);
        }
        for (int kind = 0; kind <= 6; kind++) {
            aField(0, 9, 1, kind, 0);
        }
    }

    /** "low below 0". */
    private static void fieldLowBelowZero() {
        for (int low : new int[] {-1, -8, MIN, MIN + 16}) {
            noField(Scenes::rich, NONE, 4, low, 8, Due.PLAIN, 0);
        }
        aField(4, 0, 8, Due.PLAIN, 255);
    }

    /** "width not 1 .. 8". */
    private static void fieldWidthNotOneToEight() {
        for (int width : new int[] {0, 9, -1, 32, 33, MIN, MAX}) {
            noField(Scenes::rich, NONE, 4, 0, width, Due.PLAIN, 0);
        }
        for (int width = 1; width <= 8; width++) {
            aField(4, 0, width, Due.PLAIN, (1 << width) - 1);
        }
    }

    /** "low + width above 16". */
    private static void fieldAboveSixteenBits() {
        noField(Scenes::rich, NONE, 0, 16, 1, Due.PLAIN, 0);
        noField(Scenes::rich, NONE, 0, 15, 2, Due.PLAIN, 0);
        noField(Scenes::rich, NONE, 0, 9, 8, Due.PLAIN, 0);
        noField(Scenes::rich, NONE, 0, MAX, 1, Due.PLAIN, 0);
        noField(Scenes::rich, NONE, 0, MAX - 7, 8, Due.PLAIN, 0);
        aField(0, 15, 1, Due.PLAIN, 1);
        aField(0, 14, 2, Due.PLAIN, 3);
        aField(0, 9, 7, Due.PLAIN, 127);
        DriverBook x = new DriverBook();
        due.is("the upper half", x.field(0, 8, 8, Due.PLAIN, 255), 0);
        due.is("the lower half", x.field(0, 0, 8, Due.PLAIN, 255), 1);
        due.is("all bits", x.read(0), 0xffff);
    }

    /** "the RESET isn't a number of that width". */
    private static void fieldResetNotOfItsWidth() {
        for (int kind = 0; kind <= 6; kind++) {
            noField(Scenes::rich, NONE, 0, 9, 1, kind, 2);
            noField(Scenes::rich, NONE, 0, 9, 1, kind, -1);
            noField(Scenes::rich, NONE, 0, 9, 4, kind, 16);
            noField(Scenes::rich, NONE, 4, 0, 8, kind, 256);
            noField(Scenes::rich, NONE, 4, 0, 8, kind, -1);
        }
        noField(Scenes::rich, NONE, 4, 0, 8, Due.PLAIN, MIN);
        noField(Scenes::rich, NONE, 4, 0, 8, Due.PLAIN, MAX);
        for (int kind : new int[] {Due.PLAIN, Due.STATUS, Due.FLAG, Due.TAKEN, Due.HELD}) {
            aField(0, 9, 1, kind, 0);
            aField(0, 9, 1, kind, 1);
            aField(0, 9, 4, kind, 15);
            aField(4, 0, 8, kind, 0);
            aField(4, 0, 8, kind, 255);
        }
    }

    /** "or isn't 0 for a PULSE or LOAD". */
    private static void fieldResetOfPulseOrLoad() {
        for (int kind : new int[] {Due.PULSE, Due.LOAD}) {
            noField(Scenes::rich, NONE, 0, 9, 2, kind, 1);
            noField(Scenes::rich, NONE, 0, 9, 2, kind, 2);
            noField(Scenes::rich, NONE, 0, 9, 2, kind, 3);
            aField(0, 9, 2, kind, 0);
        }
    }

    /** "OVERLAP": "No two FIELDS share a bit." The FIELD of the scene has the bits 4 .. 7 of REGISTER 3. */
    private static void fieldOverlap() {
        Twins.Scene scene = () -> {
            DriverBook x = new DriverBook();
            x.field(3, 4, 4, Due.PLAIN, 5);
            x.write(3, 0x90);
            return x;
        };
        int[][] places = {{4, 4}, {4, 1}, {7, 1}, {5, 2}, {3, 2}, {7, 2}, {3, 6}, {0, 5}, {7, 8}, {0, 8}};
        for (int[] p : places) {
            for (int kind = 0; kind <= 6; kind++) {
                noField(scene, OVERLAP, 3, p[0], p[1], kind, 0);
            }
        }
        int[][] beside = {{3, 1}, {0, 4}, {8, 1}, {8, 8}};
        for (int[] p : beside) {
            due.is(Due.call("field", 3, p[0], p[1], 0, 0), scene.make().field(3, p[0], p[1], 0, 0), 1);
        }
        due.is("the same bits of another register", scene.make().field(2, 4, 4, 0, 0), 1);
        DriverBook x = scene.make();
        x.begin(4);
        due.is("the same bits behind begin()", x.field(3, 4, 4, 0, 0), 0);
        DriverBook y = new DriverBook();
        for (int bit = 0; bit < 16; bit++) {
            due.is("each bit once", y.field(0, bit, 1, Due.PLAIN, 0), bit);
        }
        for (int bit = 0; bit < 16; bit++) {
            due.is("each bit twice", y.field(0, bit, 1, Due.PLAIN, 0), OVERLAP);
        }
    }

    /** "FULL: 24." */
    private static void fieldFull() {
        for (int kind = 0; kind <= 6; kind++) {
            noField(Scenes::full, FULL, 7, 6, 1, kind, 0);
        }
        DriverBook x = new DriverBook();
        for (int i = 0; i < 23; i++) {
            x.field(i / 8, i % 8, 1, Due.PLAIN, 0);
        }
        due.is("the 24th", x.field(3, 0, 8, Due.PLAIN, 200), 23);
        due.is("its value", x.peek(23, 0), 200);
        due.is("the 25th", x.field(3, 8, 1, Due.PLAIN, 0), FULL);
        due.is("24", x.count(1), 24);
        x.begin(1);
        due.is("behind begin()", x.field(0, 0, 1, Due.PLAIN, 0), 0);
    }

    /** "Of several refusals the one that is named first": NONE, OVERLAP, FULL. */
    private static void fieldFirstRefusal() {
        for (Twins.Scene scene : new Twins.Scene[] {Scenes::rich, Scenes::full}) {
            // each of these shares bits too
            noField(scene, NONE, 0, 0, 4, 7, 0);
            noField(scene, NONE, 0, -1, 4, Due.PLAIN, 0);
            noField(scene, NONE, 0, 0, 9, Due.PLAIN, 0);
            noField(scene, NONE, 0, 0, 0, Due.PLAIN, 0);
            noField(scene, NONE, 1, 9, 8, Due.PLAIN, 0);
            noField(scene, NONE, 0, 0, 1, Due.PLAIN, 2);
            noField(scene, NONE, 0, 0, 2, Due.PULSE, 1);
            noField(scene, NONE, 0, 0, 2, Due.LOAD, 1);
        }
        noField(Scenes::full, NONE, 8, 6, 1, Due.PLAIN, 0);
        noField(Scenes::full, NONE, 7, 6, 1, -1, 0);
        noField(Scenes::full, NONE, 7, -1, 1, Due.PLAIN, 0);
        noField(Scenes::full, NONE, 7, 6, 9, Due.PLAIN, 0);
        noField(Scenes::full, NONE, 7, 16, 1, Due.PLAIN, 0);
        noField(Scenes::full, NONE, 7, 6, 1, Due.PLAIN, -1);
        noField(Scenes::full, NONE, 7, 6, 1, Due.LOAD, 1);
        noField(Scenes::full, OVERLAP, 7, 5, 2, Due.PLAIN, 0);
        noField(Scenes::full, OVERLAP, 0, 0, 1, Due.PLAIN, 0);
    }

    // ---- promise 4 ----

    private static void noPeriod(int want, int field, int ticks) {
        twins.refused(Due.call("period", field, ticks), Scenes::rich, want, x -> x.period(field, ticks));
    }

    /** "NONE: no such FIELD". */
    private static void periodNoSuchField() {
        for (int field : new int[] {-1, 11, 24, MIN, MAX}) {
            noPeriod(NONE, field, 3);
        }
        due.is("the last field", Scenes.rich().period(10, 4), 3);
        twins.refused("no fields", DriverBook::new, NONE, x -> x.period(0, 3));
        DriverBook x = new DriverBook();
        x.field(0, 0, 1, Due.PULSE, 0);
        due.is("field 0", x.period(0, 4), 3);
    }

    /** "NONE: .. not 1 .. 9". */
    private static void periodNotOneToNine() {
        for (int ticks : new int[] {0, 10, -1, MIN, MAX}) {
            noPeriod(NONE, 5, ticks);
        }
        for (int ticks = 1; ticks <= 9; ticks++) {
            DriverBook x = Scenes.rich();
            due.is(Due.call("period", 5, ticks), x.period(5, ticks), 9);
            x.write(1, 1 << 9);
            due.is("its timer behind a WRITE's TICK", x.peek(5, 2), ticks - 1);
            due.is("the one it had", x.period(5, 9), ticks);
        }
    }

    /** "KIND: it is no PULSE." */
    private static void periodKind() {
        for (int field : new int[] {0, 1, 2, 3, 4, 6, 7, 8, 9}) {
            noPeriod(KIND, field, 1);
            noPeriod(KIND, field, 9);
        }
    }

    /** NONE, KIND. */
    private static void periodFirstRefusal() {
        for (int field : new int[] {0, 1, 2, 3, 4, 6}) {
            noPeriod(NONE, field, 0);
            noPeriod(NONE, field, 10);
        }
    }

    // ---- promise 5 ----

    private static void noDone(int want, int field, int other) {
        twins.refused(Due.call("done", field, other), Scenes::rich, want, x -> x.done(field, other));
    }

    /** "NONE: no such FIELD (either)". */
    private static void doneNoSuchField() {
        for (int field : new int[] {-1, 11, 24, MIN, MAX}) {
            noDone(NONE, field, 6);
            noDone(NONE, field, -1);
        }
        for (int other : new int[] {-2, 11, 24, MIN, MAX}) {
            noDone(NONE, 5, other);
        }
        DriverBook x = Scenes.rich();
        due.is("none, the one it had", x.done(5, -1), 7);
        due.is("it had none", x.done(5, 6), -1);
        due.is("it had 6", x.done(5, 1), 6);
        due.is("the last field", x.done(10, -1), 6);
        DriverBook y = new DriverBook();
        y.field(0, 0, 1, Due.FLAG, 0);
        y.field(0, 1, 1, Due.PULSE, 0);
        due.is("none at first", y.done(1, 0), -1);
        due.is("it had field 0", y.done(1, -1), 0);
    }

    /** "KIND: the first is no PULSE, or the second neither STATUS nor FLAG." */
    private static void doneKind() {
        for (int field : new int[] {0, 1, 2, 3, 4, 6}) {
            noDone(KIND, field, 7);
            noDone(KIND, field, -1);
            noDone(KIND, field, field);
        }
        for (int other : new int[] {0, 2, 3, 4, 5, 10}) {
            noDone(KIND, 5, other);
        }
        for (int other : new int[] {1, 6, 7}) {
            DriverBook x = Scenes.rich();
            due.is(Due.call("done", 5, other), x.done(5, other), 7);
            due.is("it has it", x.done(5, -1), other);
        }
    }

    /** NONE, KIND. */
    private static void doneFirstRefusal() {
        noDone(NONE, 0, 11);
        noDone(NONE, 0, -2);
        noDone(NONE, 11, 0);
        noDone(NONE, -1, 0);
        noDone(KIND, 0, 0);
    }

    // ---- promise 6 ----

    private static void noLaw(Twins.Scene scene, int want, int kind, int f, int g, int v) {
        twins.refused(Due.call("law", kind, f, g, v), scene, want, x -> x.law(kind, f, g, v));
    }

    private static void aLaw(int kind, int f, int g, int v) {
        DriverBook x = Scenes.rich();
        due.is(Due.call("law", kind, f, g, v), x.law(kind, f, g, v), 3);
        due.is("laws", x.count(2), 4);
    }

    /** "NONE: no such KIND (0 .. 2)". */
    private static void lawNoSuchKind() {
        for (int kind : new int[] {-1, 3, MIN, MAX}) {
            noLaw(Scenes::rich, NONE, kind, 0, 1, 0);
        }
        aLaw(0, 0, 1, 0);
        aLaw(1, 0, 1, 0);
        aLaw(2, 0, 1, 0);
    }

    /** "NONE: no such .. FIELDS". */
    private static void lawNoSuchField() {
        for (int field : new int[] {-1, 11, 24, MIN, MAX}) {
            noLaw(Scenes::rich, NONE, 0, field, 1, 0);
            noLaw(Scenes::rich, NONE, 0, 1, field, 0);
            noLaw(Scenes::rich, NONE, 0, field, field, 0);
        }
        noLaw(DriverBook::new, NONE, 0, 0, 0, 0);
        aLaw(0, 0, 0, 0);
        aLaw(0, 10, 0, 0);
        aLaw(0, 0, 10, 0);
        for (int field = 0; field < 11; field++) {
            aLaw(2, field, 10 - field, 1);
        }
    }

    /** "v is not 0 .. 255". */
    private static void lawNumberNotAByte() {
        for (int v : new int[] {-1, 256, MIN, MAX}) {
            for (int kind = 0; kind <= 2; kind++) {
                noLaw(Scenes::rich, NONE, kind, 0, 1, v);
            }
        }
        for (int kind = 0; kind <= 2; kind++) {
            aLaw(kind, 0, 1, 0);
            // a number that g can't have is a law's number all the same
            aLaw(kind, 0, 1, 255);
        }
    }

    /** "FULL: 12." */
    private static void lawFull() {
        for (int kind = 0; kind <= 2; kind++) {
            noLaw(Scenes::full, FULL, kind, 0, 0, 0);
        }
        DriverBook x = Scenes.rich();
        for (int k = 3; k < 12; k++) {
            due.is("law " + k, x.law(0, 0, 0, 0), k);
        }
        due.is("the 13th", x.law(0, 0, 0, 0), FULL);
        due.is("12", x.count(2), 12);
        x.begin(1);
        x.field(0, 0, 1, Due.PLAIN, 0);
        due.is("behind begin()", x.law(0, 0, 0, 0), 0);
    }

    /** NONE, FULL. */
    private static void lawFirstRefusal() {
        noLaw(Scenes::full, NONE, 3, 0, 0, 0);
        noLaw(Scenes::full, NONE, -1, 0, 0, 0);
        noLaw(Scenes::full, NONE, 0, 24, 0, 0);
        noLaw(Scenes::full, NONE, 0, 0, 24, 0);
        noLaw(Scenes::full, NONE, 0, 0, 0, 256);
        noLaw(Scenes::full, NONE, 0, 0, 0, -1);
    }

    // ---- promise 7 ----

    /** "FULL: 6." */
    private static void actFull() {
        twins.refused("act()", Scenes::full, FULL, DriverBook::act);
        DriverBook x = Scenes.rich();
        due.is("the fifth", x.act(), 4);
        due.is("the sixth", x.act(), 5);
        due.is("the seventh", x.act(), FULL);
        due.is("6", x.count(3), 6);
        due.is("the last one's steps", x.step(5, Due.PAUSE, -1, 1, 0), 1);
        due.is("no act 6", x.step(6, Due.PAUSE, -1, 1, 0), NONE);
        x.begin(1);
        due.is("behind begin()", x.act(), 0);
    }

    // ---- promise 8 ----

    private static void noStep(Twins.Scene scene, int want, int act, int kind, int field, int v, int limit) {
        twins.refused(Due.call("step", act, kind, field, v, limit), scene, want, x -> x.step(act, kind, field, v, limit));
    }

    /** In the rich scene, where ACT 2 has no STEPS. */
    private static void aStep(int kind, int field, int v, int limit) {
        DriverBook x = Scenes.rich();
        due.is(Due.call("step", 2, kind, field, v, limit), x.step(2, kind, field, v, limit), 1);
        due.is("steps", x.bare(2), 1);
    }

    /** "NONE: no such ACT". */
    private static void stepNoSuchAct() {
        for (int act : new int[] {-1, 4, 6, MIN, MAX}) {
            noStep(Scenes::rich, NONE, act, Due.SET, 0, 0, 0);
            noStep(Scenes::rich, NONE, act, Due.AWAIT, 0, 0, 0);
            noStep(Scenes::rich, NONE, act, Due.GET, 0, 0, 0);
            noStep(Scenes::rich, NONE, act, Due.PAUSE, -1, 1, 0);
        }
        due.is("the first act", Scenes.rich().step(0, Due.PAUSE, -1, 1, 0), 3);
        due.is("the last act", Scenes.rich().step(3, Due.PAUSE, -1, 1, 0), 2);
    }

    /** "NONE: no such .. kind". */
    private static void stepNoSuchKind() {
        for (int kind : new int[] {-1, 4, MIN, MAX}) {
            noStep(Scenes::rich, NONE, 2, kind, 0, 0, 0);
            noStep(Scenes::rich, NONE, 2, kind, -1, 1, 0);
        }
    }

    /** "NONE: no such .. FIELD (-1 for PAUSE)". */
    private static void stepNoSuchField() {
        for (int kind : new int[] {Due.SET, Due.AWAIT, Due.GET}) {
            for (int field : new int[] {-1, 11, 24, MIN, MAX}) {
                noStep(Scenes::rich, NONE, 2, kind, field, 0, 0);
            }
            aStep(kind, 0, 0, 0);
            aStep(kind, 10, 0, 0);
        }
        for (int field : new int[] {0, 10, -2, 11, MIN, MAX}) {
            noStep(Scenes::rich, NONE, 2, Due.PAUSE, field, 1, 0);
        }
        aStep(Due.PAUSE, -1, 1, 0);
    }

    /** "v is not a number of the FIELD's width (SET, AWAIT)": FIELD 10 has 1 bit, 8 has 4; a FIELD of 8 bits besides. */
    private static void stepNumberOfSetAndAwait() {
        Twins.Scene wide = () -> {
            DriverBook x = new DriverBook();
            x.field(0, 8, 8, Due.PLAIN, 0);
            x.act();
            return x;
        };
        for (int kind : new int[] {Due.SET, Due.AWAIT}) {
            for (int v : new int[] {-1, 2, MIN, MAX}) {
                noStep(Scenes::rich, NONE, 2, kind, 10, v, 0);
            }
            for (int v : new int[] {-1, 16}) {
                noStep(Scenes::rich, NONE, 2, kind, 8, v, 0);
            }
            for (int v : new int[] {-1, 256, MIN, MAX}) {
                noStep(wide, NONE, 0, kind, 0, v, 0);
            }
            aStep(kind, 10, 0, 0);
            aStep(kind, 10, 1, 0);
            aStep(kind, 8, 15, 0);
            due.is("a byte's largest", wide.make().step(0, kind, 0, 255, 0), 1);
            due.is("a byte's least", wide.make().step(0, kind, 0, 0, 0), 1);
        }
    }

    /** "v is .. not 0 (GET)". */
    private static void stepNumberOfGet() {
        for (int v : new int[] {1, -1, MIN, MAX}) {
            noStep(Scenes::rich, NONE, 2, Due.GET, 0, v, 0);
        }
        aStep(Due.GET, 0, 0, 0);
    }

    /** "v is .. not 1 .. 9 (PAUSE)". */
    private static void stepNumberOfPause() {
        for (int v : new int[] {0, 10, -1, MIN, MAX}) {
            noStep(Scenes::rich, NONE, 2, Due.PAUSE, -1, v, 0);
        }
        for (int v = 1; v <= 9; v++) {
            aStep(Due.PAUSE, -1, v, 0);
        }
    }

    /** "limit is not 0 .. 20 (AWAIT)". */
    private static void stepLimitOfAwait() {
        for (int limit : new int[] {-1, 21, MIN, MAX}) {
            noStep(Scenes::rich, NONE, 2, Due.AWAIT, 0, 0, limit);
        }
        for (int limit : new int[] {0, 1, 19, 20}) {
            aStep(Due.AWAIT, 0, 0, limit);
        }
    }

    /** "limit is .. not 0 (others)". */
    private static void stepLimitOfOthers() {
        for (int limit : new int[] {1, -1, 20, MIN, MAX}) {
            noStep(Scenes::rich, NONE, 2, Due.SET, 0, 0, limit);
            noStep(Scenes::rich, NONE, 2, Due.GET, 0, 0, limit);
            noStep(Scenes::rich, NONE, 2, Due.PAUSE, -1, 1, limit);
        }
        aStep(Due.SET, 0, 0, 0);
        aStep(Due.GET, 0, 0, 0);
        aStep(Due.PAUSE, -1, 1, 0);
    }

    /** "KIND: SET of STATUS or TAKEN, AWAIT of TAKEN". */
    private static void stepKind() {
        noStep(Scenes::rich, KIND, 2, Due.SET, 6, 0, 0);
        noStep(Scenes::rich, KIND, 2, Due.SET, 2, 0, 0);
        noStep(Scenes::rich, KIND, 2, Due.AWAIT, 2, 0, 0);
        noStep(Scenes::rich, KIND, 2, Due.AWAIT, 2, 7, 20);
        for (int field : new int[] {0, 1, 3, 4, 5}) {
            aStep(Due.SET, field, 1, 0);
        }
        for (int field : new int[] {0, 1, 3, 4, 5, 6}) {
            aStep(Due.AWAIT, field, 1, 0);
        }
        for (int field = 0; field <= 6; field++) {
            aStep(Due.GET, field, 0, 0);
        }
    }

    /** "FULL: 12." */
    private static void stepFull() {
        for (int act = 0; act < 6; act++) {
            noStep(Scenes::full, FULL, act, Due.PAUSE, -1, 1, 0);
        }
        noStep(Scenes::full, FULL, 0, Due.SET, 0, 3, 0);
        noStep(Scenes::full, FULL, 0, Due.AWAIT, 0, 3, 20);
        noStep(Scenes::full, FULL, 0, Due.GET, 3, 0, 0);
        DriverBook x = Scenes.rich();
        for (int k = 1; k <= 12; k++) {
            due.is("step " + k, x.step(2, Due.PAUSE, -1, 1, 0), k);
        }
        due.is("the 13th", x.step(2, Due.PAUSE, -1, 1, 0), FULL);
        due.is("another act has room", x.step(3, Due.PAUSE, -1, 1, 0), 2);
        due.is("12", x.bare(2), 12);
        due.is("room again", x.step(2, Due.PAUSE, -1, 1, 0), 1);
    }

    /** NONE, KIND, FULL. */
    private static void stepFirstRefusal() {
        noStep(Scenes::rich, NONE, 4, Due.SET, 6, 0, 0);
        noStep(Scenes::rich, NONE, 2, Due.SET, 6, 8, 0);
        noStep(Scenes::rich, NONE, 2, Due.SET, 2, -1, 0);
        noStep(Scenes::rich, NONE, 2, Due.SET, 6, 0, 1);
        noStep(Scenes::rich, NONE, 2, Due.AWAIT, 2, 8, 0);
        noStep(Scenes::rich, NONE, 2, Due.AWAIT, 2, 0, 21);
        noStep(Scenes::full, NONE, 6, Due.PAUSE, -1, 1, 0);
        noStep(Scenes::full, NONE, 0, 4, 0, 0, 0);
        noStep(Scenes::full, NONE, 0, Due.SET, 24, 0, 0);
        noStep(Scenes::full, NONE, 0, Due.SET, 0, 4, 0);
        noStep(Scenes::full, NONE, 0, Due.GET, 0, 1, 0);
        noStep(Scenes::full, NONE, 0, Due.PAUSE, -1, 10, 0);
        noStep(Scenes::full, NONE, 0, Due.PAUSE, 0, 1, 0);
        noStep(Scenes::full, NONE, 0, Due.AWAIT, 0, 0, 21);
        noStep(Scenes::full, KIND, 0, Due.SET, 2, 0, 0);
        noStep(Scenes::full, KIND, 0, Due.SET, 3, 0, 0);
        noStep(Scenes::full, KIND, 0, Due.AWAIT, 3, 0, 0);
    }

    // ---- promise 9 ----

    /** "NONE: there is none." */
    private static void bareNone() {
        for (int act : new int[] {-1, 4, 6, MIN, MAX}) {
            twins.refused(Due.call("bare", act), Scenes::rich, NONE, x -> x.bare(act));
        }
        int[] had = {2, 6, 0, 1};
        for (int act = 0; act < 4; act++) {
            DriverBook x = Scenes.rich();
            due.is(Due.call("bare", act), x.bare(act), had[act]);
            due.is("no code is left", x.code(act), 0);
            due.is("no steps are left", x.bare(act), 0);
            due.is("acts", x.count(3), 4);
        }
        due.is("twelve", Scenes.full().bare(5), 12);
    }

    // ---- promise 10 ----

    private static void noHandler(int want, int field, int act) {
        twins.refused(Due.call("handler", field, act), Scenes::rich, want, x -> x.handler(field, act));
    }

    /** "NONE: no such FIELD". */
    private static void handlerNoSuchField() {
        for (int field : new int[] {-1, 11, 24, MIN, MAX}) {
            noHandler(NONE, field, 0);
            noHandler(NONE, field, -1);
        }
        DriverBook x = new DriverBook();
        x.field(0, 0, 1, Due.FLAG, 0);
        x.act();
        due.is("field 0, act 0", x.handler(0, 0), -1);
        due.is("it had act 0", x.handler(0, 0), 0);
    }

    /** "NONE: no such .. ACT", "(-1: none)". */
    private static void handlerNoSuchAct() {
        for (int act : new int[] {-2, 4, 6, MIN, MAX}) {
            noHandler(NONE, 7, act);
        }
        DriverBook x = Scenes.rich();
        due.is("the last act", x.handler(7, 3), 0);
        due.is("none", x.handler(7, -1), 3);
        due.is("it had none", x.handler(7, 0), -1);
    }

    /** "KIND: it is no FLAG." */
    private static void handlerKind() {
        for (int field : new int[] {0, 2, 3, 4, 5, 6}) {
            noHandler(KIND, field, 0);
            noHandler(KIND, field, -1);
        }
        due.is("another flag", Scenes.rich().handler(1, 0), -1);
    }

    /** NONE, KIND. */
    private static void handlerFirstRefusal() {
        for (int field : new int[] {0, 2, 3, 4, 5, 6}) {
            noHandler(NONE, field, 4);
            noHandler(NONE, field, -2);
        }
    }

    // ---- promise 11 ----

    /** "NONE." for what is neither 1 nor 0. */
    private static void locksNone() {
        for (int on : new int[] {-1, 2, MIN, MAX}) {
            twins.refused(Due.call("locks", on), Scenes::rich, NONE, x -> x.locks(on));
            twins.refused(Due.call("locks", on), Scenes::full, NONE, x -> x.locks(on));
        }
        DriverBook x = new DriverBook();
        due.is("on at first", x.locks(1), 1);
        due.is("still on", x.locks(0), 1);
        due.is("off", x.locks(0), 0);
        due.is("still off", x.locks(1), 0);
        x.locks(0);
        x.begin(4);
        due.is("begin() puts them on", x.locks(1), 1);
    }

    // ---- promises 12 to 14 ----

    /** "NONE: no such ACT." */
    private static void codeNone() {
        for (int act : new int[] {-1, 4, 6, MIN, MAX}) {
            twins.refused(Due.call("code", act), Scenes::rich, NONE, x -> x.code(act));
        }
        int[] sizes = {3, 9, 0, 1};
        for (int act = 0; act < 4; act++) {
            int a = act;
            twins.leaves(Due.call("code", act), Scenes::rich, sizes[act], x -> x.code(a));
        }
        due.is("no acts", new DriverBook().code(0), NONE);
    }

    /** "NONE: there is none, no such what." ACT 1 has nine INSTRUCTIONS. */
    private static void opNone() {
        int[][] refused = {{-1, 0, 0}, {4, 0, 0}, {6, 0, 0}, {MIN, 0, 0}, {MAX, 0, 0}, {1, -1, 0}, {1, 9, 0}, {1, MIN, 0},
            {1, MAX, 0}, {2, 0, 0}, {3, 1, 0}, {1, 0, -1}, {1, 0, 6}, {1, 0, MIN}, {1, 0, MAX}, {1, 9, 6}};
        for (int[] a : refused) {
            twins.refused(Due.call("op", a[0], a[1], a[2]), Scenes::rich, NONE, x -> x.op(a[0], a[1], a[2]));
        }
        twins.leaves("the first", Scenes::rich, 0, x -> x.op(1, 0, 0));
        twins.leaves("the last", Scenes::rich, 3, x -> x.op(1, 8, 0));
        twins.leaves("the last what", Scenes::rich, -2, x -> x.op(1, 8, 5));
        twins.leaves("a limit", Scenes::rich, 1, x -> x.op(3, 0, 5));
    }

    /** "NONE: no such ACT." */
    private static void sameNone() {
        for (int act : new int[] {-1, 4, 6, MIN, MAX}) {
            twins.refused(Due.call("same", act, 0), Scenes::rich, NONE, x -> x.same(act, 0));
            twins.refused(Due.call("same", 0, act), Scenes::rich, NONE, x -> x.same(0, act));
            twins.refused(Due.call("same", act, act), Scenes::rich, NONE, x -> x.same(act, act));
        }
        twins.leaves("the first and the last", Scenes::rich, 0, x -> x.same(0, 3));
        twins.leaves("the last and the first", Scenes::rich, 0, x -> x.same(3, 0));
        twins.leaves("one without steps and itself", Scenes::rich, 1, x -> x.same(2, 2));
        twins.leaves("the last and itself", Scenes::rich, 1, x -> x.same(3, 3));
    }
}
