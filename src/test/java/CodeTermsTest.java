/** Part II of the terms, ACTS, STEPS and CODE: a test for each sentence that names a bound, an order or an edge. */
public final class CodeTermsTest {
    private static final int READ = 0, WRITE = 1, POLL = 2, PAUSE = 3, PICK = 4, LOCK = 5, FREE = 6;
    private static final int BY_NOTHING = 0, BY_ACC = 1, BY_SHADOW = 2;
    private static final Due due = new Due();

    public static void main(String[] args) {
        actsAreNumbered();
        upToTwelveSteps();
        noStepsNoCode();
        aGroupOfOneRegister();
        aGroupOfTwelveFields();
        aFieldTwiceParts();
        anotherRegisterParts();
        aLawParts();
        aLawWithAnyOfTheGroupParts();
        aLawOfOneFieldPartsNothing();
        aLawWithAFieldOutsidePartsNothing();
        behindAPartAGroupBeginsAnew();
        otherStepsPart();
        keepIsOfPlainFields();
        keepIsOfHeldFieldsToo();
        keepOfZeroIsByNothing();
        keepOfZeroHasNoLock();
        keepOfOneBitIsByAcc();
        keepOfOneBitIsByShadow();
        shadowedByTakenOrHeldAlone();
        locksNeedAHandler();
        locksNeedToBeOn();
        putHasValuesAtTheirBits();
        awaitIsAPoll();
        getIsAReadAndAPick();
        pauseIsAPause();
        partsThatAreNone();
        theLongestCode();
        theFirstFieldShadows();
        noCodeBehindBegin();
        noCodeOfSixActsBehindBegin();
        theSameCode();
        due.end("CodeTermsTest");
    }

    /** "ACTS 0 .. 5, numbered as they are made". */
    private static void actsAreNumbered() {
        DriverBook x = Scenes.kinds();
        for (int a = 1; a < 6; a++) {
            due.is("act " + a, x.act(), a);
        }
        for (int a = 0; a < 6; a++) {
            x.step(a, Due.PAUSE, -1, a + 1, 0);
        }
        for (int a = 0; a < 6; a++) {
            due.is("its own STEPS", x.op(a, 0, 1), a + 1);
        }
        due.is("no act 6", x.code(6), -1);
    }

    /** "have up to 12 STEPS": the twelfth is in the CODE. */
    private static void upToTwelveSteps() {
        DriverBook x = Scenes.kinds();
        for (int k = 1; k <= 12; k++) {
            x.step(0, Due.PAUSE, -1, 1 + k % 9, 0);
            due.is("instructions", x.code(0), k);
            due.op("the last", x, 0, k - 1, PAUSE, 1 + k % 9, -2, -2, -2, -2);
        }
        x.step(0, Due.PAUSE, -1, 1, 0);
        due.is("a 13th was refused", x.code(0), 12);
    }

    private static void noStepsNoCode() {
        DriverBook x = Scenes.kinds();
        due.is("a new ACT", x.code(0), 0);
        due.is("no INSTRUCTION 0", x.op(0, 0, 0), -1);
        due.is("it RUNS", x.run(0), 0);
    }

    /** n PLAIN FIELDS of one bit in REGISTER 0 and one in REGISTER 1, and an ACT that SETS some of them to 1. */
    private static DriverBook plains(int n, int... sets) {
        DriverBook x = new DriverBook();
        for (int i = 0; i < n; i++) {
            x.field(0, i, 1, Due.PLAIN, 0);
        }
        x.field(1, 0, 1, Due.PLAIN, 0);
        x.act();
        for (int f : sets) {
            x.step(0, Due.SET, f, 1, 0);
        }
        return x;
    }

    /** The PUTS of an ACT's WRITES. */
    private static void puts(String what, DriverBook x, int... puts) {
        int k = 0;
        int size = x.code(0);
        for (int i = 0; i < size; i++) {
            if (x.op(0, i, 0) == WRITE) {
                due.is(what + ": PUT " + k, x.op(0, i, 4), k < puts.length ? puts[k] : -99);
                k++;
            }
        }
        due.is(what + ": WRITES", k, puts.length);
    }

    /** "a SET and the SETs right behind it, as long as each is of the same REGISTER". */
    private static void aGroupOfOneRegister() {
        puts("one", plains(4, 2), 4);
        puts("two", plains(4, 2, 0), 5);
        puts("all", plains(4, 3, 2, 1, 0), 15);
    }

    /** Twelve STEPS may be one GROUP. */
    private static void aGroupOfTwelveFields() {
        DriverBook x = plains(12, 0, 1, 2, 3, 4, 5, 6, 7, 8, 9, 10, 11);
        due.is("one WRITE", x.code(0), 1);
        due.op("of all", x, 0, 0, WRITE, 0, BY_NOTHING, 0, 4095, -2);
        DriverBook y = plains(16, 0, 1, 2, 3, 4, 5, 6, 7, 8, 9, 10, 11);
        due.is("four are kept", y.code(0), 2);
        due.op("of twelve", y, 0, 1, WRITE, 0, BY_ACC, 0xf000, 4095, -2);
    }

    /** "of a FIELD that isn't in the GROUP". */
    private static void aFieldTwiceParts() {
        puts("at once", plains(4, 0, 0), 1, 1);
        puts("behind another", plains(4, 0, 1, 0), 3, 1);
        puts("and on", plains(4, 0, 1, 0, 1), 3, 3);
        puts("the last of three", plains(4, 0, 1, 2, 2, 3), 7, 12);
    }

    private static void anotherRegisterParts() {
        puts("another and back", plains(2, 0, 2, 1), 1, 1, 2);
        puts("behind it", plains(2, 0, 1, 2), 3, 1);
    }

    /** "no LAW has (as its f and g, either way) this FIELD and one of the GROUP": each kind, either way, any v. */
    private static void aLawParts() {
        for (int kind = 0; kind <= 2; kind++) {
            for (int way = 0; way <= 1; way++) {
                for (int v : new int[] {0, 255}) {
                    DriverBook x = plains(4, 0, 1);
                    puts("no LAW", x, 3);
                    x.law(kind, way, 1 - way, v);
                    puts("a LAW of both", x, 1, 2);
                }
            }
        }
    }

    /** "one of the GROUP": not the one right ahead of it alone. */
    private static void aLawWithAnyOfTheGroupParts() {
        for (int other = 0; other < 3; other++) {
            DriverBook x = plains(5, 0, 1, 2, 3);
            x.law(0, 3, other, 0);
            puts("with " + other, x, 7, 8);
            DriverBook y = plains(5, 0, 1, 2, 3);
            y.law(0, other, 3, 0);
            puts("with " + other + ", the other way", y, 7, 8);
        }
        DriverBook x = plains(5, 0, 1);
        for (int k = 0; k < 11; k++) {
            x.law(0, 4, 4, 0);
        }
        puts("eleven LAWS of others", x, 3);
        x.law(0, 0, 1, 0);
        puts("the twelfth", x, 1, 2);
    }

    private static void aLawOfOneFieldPartsNothing() {
        DriverBook x = plains(4, 0, 1);
        x.law(0, 0, 0, 0);
        x.law(0, 1, 1, 0);
        puts("f is g", x, 3);
    }

    private static void aLawWithAFieldOutsidePartsNothing() {
        DriverBook x = plains(4, 0, 1);
        x.law(0, 0, 2, 0);
        x.law(0, 2, 1, 0);
        x.law(0, 4, 0, 0);
        puts("with FIELDS that aren't SET", x, 3);
        DriverBook y = plains(4, 0, 2, 1);
        y.law(0, 0, 1, 0);
        puts("with one that is SET later", y, 5, 2);
    }

    /** A SET that doesn't belong to a GROUP begins the next: FIELDS of the one ahead may be in it. */
    private static void behindAPartAGroupBeginsAnew() {
        DriverBook x = plains(4, 0, 1, 2);
        x.law(0, 0, 1, 0);
        puts("1 and 2 together", x, 1, 6);
        DriverBook y = plains(4, 0, 1, 0);
        y.law(0, 0, 1, 0);
        puts("each alone", y, 1, 2, 1);
        DriverBook z = plains(4, 0, 0, 1);
        puts("0 again, and 1", z, 1, 3);
    }

    /** "right behind it": any other STEP between ends a GROUP. */
    private static void otherStepsPart() {
        for (int kind = 1; kind <= 3; kind++) {
            DriverBook x = plains(4, 0);
            x.step(0, kind, kind == Due.PAUSE ? -1 : 3, kind == Due.PAUSE ? 1 : 0, 0);
            x.step(0, Due.SET, 1, 1, 0);
            puts("a STEP of kind " + kind, x, 1, 2);
            DriverBook y = plains(4);
            y.step(0, kind, kind == Due.PAUSE ? -1 : 3, kind == Due.PAUSE ? 1 : 0, 0);
            y.step(0, Due.SET, 1, 1, 0);
            puts("ahead of the first SET", y, 2);
            DriverBook z = plains(4, 0, 1);
            z.step(0, kind, kind == Due.PAUSE ? -1 : 3, kind == Due.PAUSE ? 1 : 0, 0);
            puts("behind the last SET", z, 3);
        }
    }

    /** REGISTER 0: PLAIN 0 of bits 0 and 1, a FIELD of a kind of bits 2 and 3; an ACT SETS the PLAIN one, or the other. */
    private static DriverBook pair(int kind, boolean setsOther) {
        DriverBook x = new DriverBook();
        x.field(0, 0, 2, Due.PLAIN, 0);
        x.field(0, 2, 2, kind, 0);
        x.act();
        x.step(0, Due.SET, setsOther ? 1 : 0, 2, 0);
        return x;
    }

    /** "KEEP is the bits of r's PLAIN fields that aren't in it": no FLAG's, STATUS's, TAKEN's, PULSE's or LOAD's. */
    private static void keepIsOfPlainFields() {
        for (int kind : new int[] {Due.STATUS, Due.FLAG, Due.TAKEN, Due.PULSE, Due.LOAD}) {
            due.op("kind " + kind, pair(kind, false), 0, 0, WRITE, 0, BY_NOTHING, 0, 2, -2);
        }
        due.op("another PLAIN one", pair(Due.PLAIN, false), 0, 1, WRITE, 0, BY_ACC, 12, 2, -2);
        for (int kind : new int[] {Due.FLAG, Due.PULSE, Due.LOAD}) {
            due.op("the PLAIN one is kept", pair(kind, true), 0, 1, WRITE, 0, BY_ACC, 3, 8, -2);
        }
    }

    /** "and, if r is SHADOWED .., also of its HELD fields that aren't in it". */
    private static void keepIsOfHeldFieldsToo() {
        due.op("a HELD one", pair(Due.HELD, false), 0, 0, WRITE, 0, BY_SHADOW, 12, 2, -2);
        due.op("the PLAIN one", pair(Due.HELD, true), 0, 0, WRITE, 0, BY_SHADOW, 3, 8, -2);
        DriverBook x = pair(Due.HELD, true);
        x.field(1, 0, 8, Due.HELD, 0);
        due.op("no other REGISTER's", x, 0, 0, WRITE, 0, BY_SHADOW, 3, 8, -2);
        x.field(0, 4, 8, Due.HELD, 0);
        due.op("another HELD one", x, 0, 0, WRITE, 0, BY_SHADOW, 0xff3, 8, -2);
    }

    /** "If KEEP is 0: WRITE r by nothing": also if r is SHADOWED. */
    private static void keepOfZeroIsByNothing() {
        DriverBook x = new DriverBook();
        x.field(0, 0, 2, Due.PLAIN, 0);
        x.field(0, 2, 2, Due.TAKEN, 0);
        x.field(1, 0, 2, Due.HELD, 0);
        x.field(1, 2, 1, Due.LOAD, 0);
        x.field(2, 0, 2, Due.FLAG, 0);
        x.field(2, 2, 2, Due.STATUS, 0);
        x.act();
        x.step(0, Due.SET, 0, 1, 0);
        x.step(0, Due.SET, 2, 2, 0);
        x.step(0, Due.SET, 3, 0, 0);
        x.step(0, Due.SET, 4, 3, 0);
        due.is("three WRITES", x.code(0), 3);
        due.op("SHADOWED by a TAKEN one", x, 0, 0, WRITE, 0, BY_NOTHING, 0, 1, -2);
        due.op("SHADOWED by a HELD one", x, 0, 1, WRITE, 1, BY_NOTHING, 0, 2, -2);
        due.op("no PLAIN ones at all", x, 0, 2, WRITE, 2, BY_NOTHING, 0, 3, -2);
        x.step(0, Due.SET, 2, 0, 0);
        due.op("a PUT of 0", x, 0, 3, WRITE, 1, BY_NOTHING, 0, 0, -2);
    }

    private static void keepOfZeroHasNoLock() {
        DriverBook x = plains(2, 0, 1);
        x.field(2, 0, 1, Due.FLAG, 0);
        x.handler(3, 0);
        due.is("LOCKS are on, there is a HANDLER", x.count(7), 1);
        due.is("one WRITE", x.code(0), 1);
        due.op("by nothing", x, 0, 0, WRITE, 0, BY_NOTHING, 0, 3, -2);
    }

    /** "Else: READ r, then WRITE r by ACC". */
    private static void keepOfOneBitIsByAcc() {
        DriverBook x = plains(3, 0, 1);
        due.is("READ and WRITE", x.code(0), 2);
        due.op("READ", x, 0, 0, READ, 0, -2, -2, -2, -2);
        due.op("WRITE", x, 0, 1, WRITE, 0, BY_ACC, 4, 3, -2);
    }

    /** "Else if r is SHADOWED: WRITE r by SHADOW": never with a LOCK. */
    private static void keepOfOneBitIsByShadow() {
        for (int kind : new int[] {Due.TAKEN, Due.HELD}) {
            DriverBook x = plains(3, 0, 1);
            x.field(0, 15, 1, kind, 0);
            x.field(2, 0, 1, Due.FLAG, 0);
            x.handler(5, 0);
            due.is("one WRITE", x.code(0), 1);
            due.op("by SHADOW", x, 0, 0, WRITE, 0, BY_SHADOW, kind == Due.HELD ? 0x8004 : 4, 3, -2);
        }
    }

    /** "SHADOWED (it has a TAKEN or a HELD field)". */
    private static void shadowedByTakenOrHeldAlone() {
        for (int kind = 0; kind <= 6; kind++) {
            DriverBook x = plains(3, 0);
            x.field(0, 15, 1, kind, 0);
            boolean shadowed = kind == Due.TAKEN || kind == Due.HELD;
            due.is("kind " + kind, x.code(0), shadowed ? 1 : 2);
            due.is("by", x.op(0, shadowed ? 0 : 1, 2), shadowed ? BY_SHADOW : BY_ACC);
            DriverBook y = plains(3, 0);
            y.field(1, 15, 1, kind, 0);
            due.is("another REGISTER's kind " + kind, y.code(0), 2);
        }
    }

    /** ".. have a LOCK ahead and a FREE behind if LOCKS are on .. and there is a HANDLER". */
    private static void locksNeedAHandler() {
        DriverBook x = plains(3, 0);
        x.field(2, 0, 1, Due.FLAG, 0);
        x.act();
        due.is("a FLAG without a HANDLER", x.code(0), 2);
        x.handler(4, 1);
        due.is("with one, an ACT without STEPS", x.code(0), 4);
        due.op("LOCK", x, 0, 0, LOCK, -2, -2, -2, -2, -2);
        due.op("READ", x, 0, 1, READ, 0, -2, -2, -2, -2);
        due.op("WRITE", x, 0, 2, WRITE, 0, BY_ACC, 6, 1, -2);
        due.op("FREE", x, 0, 3, FREE, -2, -2, -2, -2, -2);
        x.handler(4, 0);
        due.is("the ACT itself as the HANDLER", x.code(0), 4);
        x.handler(4, -1);
        due.is("none again", x.code(0), 2);
    }

    /** "if LOCKS are on (they are at first)". */
    private static void locksNeedToBeOn() {
        DriverBook x = plains(3, 0);
        x.field(2, 0, 1, Due.FLAG, 0);
        x.handler(4, 0);
        due.is("on at first", x.code(0), 4);
        x.locks(0);
        due.is("off", x.code(0), 2);
        x.locks(1);
        due.is("on", x.code(0), 4);
        x.step(0, Due.GET, 1, 0, 0);
        x.step(0, Due.AWAIT, 1, 0, 0);
        due.is("a GET and an AWAIT have none", x.code(0), 7);
    }

    /** "PUT is the GROUP's values at their bits": up to bit 15, up to 8 bits, and 0. */
    private static void putHasValuesAtTheirBits() {
        DriverBook x = new DriverBook();
        x.field(0, 8, 8, Due.PLAIN, 0);
        x.field(0, 0, 7, Due.PLAIN, 0);
        x.field(0, 7, 1, Due.PULSE, 0);
        x.act();
        x.step(0, Due.SET, 0, 255, 0);
        x.step(0, Due.SET, 1, 127, 0);
        x.step(0, Due.SET, 2, 1, 0);
        due.op("all bits", x, 0, 0, WRITE, 0, BY_NOTHING, 0, 65535, -2);
        x.bare(0);
        x.step(0, Due.SET, 0, 0, 0);
        x.step(0, Due.SET, 1, 0, 0);
        x.step(0, Due.SET, 2, 0, 0);
        due.op("no bits", x, 0, 0, WRITE, 0, BY_NOTHING, 0, 0, -2);
        x.bare(0);
        x.step(0, Due.SET, 0, 129, 0);
        due.op("two of them", x, 0, 1, WRITE, 0, BY_ACC, 127, 129 << 8, -2);
        x.bare(0);
        x.step(0, Due.SET, 1, 5, 0);
        due.op("the upper half is kept", x, 0, 1, WRITE, 0, BY_ACC, 0xff00, 5, -2);
    }

    /** "AWAIT: POLL": limit 0 and 20, a value of 0 and the largest one. */
    private static void awaitIsAPoll() {
        DriverBook x = new DriverBook();
        x.field(3, 8, 8, Due.STATUS, 0);
        x.field(0, 0, 1, Due.PLAIN, 0);
        x.act();
        x.step(0, Due.AWAIT, 0, 255, 20);
        x.step(0, Due.AWAIT, 0, 0, 0);
        x.step(0, Due.AWAIT, 1, 1, 1);
        due.is("three", x.code(0), 3);
        due.op("the largest", x, 0, 0, POLL, 3, -2, 0xff00, 0xff00, 20);
        due.op("0", x, 0, 1, POLL, 3, -2, 0xff00, 0, 0);
        due.op("another FIELD", x, 0, 2, POLL, 0, -2, 1, 1, 1);
    }

    /** "GET: READ r, then PICK f": of each kind. */
    private static void getIsAReadAndAPick() {
        for (int kind = 0; kind <= 6; kind++) {
            DriverBook x = Scenes.kinds();
            x.step(0, Due.GET, kind, 0, 0);
            due.is("two", x.code(0), 2);
            due.op("READ", x, 0, 0, READ, 0, -2, -2, -2, -2);
            due.op("PICK", x, 0, 1, PICK, kind, -2, -2, -2, -2);
        }
    }

    /** "PAUSE: PAUSE": 1 and 9, and two of them aren't one. */
    private static void pauseIsAPause() {
        DriverBook x = Scenes.kinds();
        x.step(0, Due.PAUSE, -1, 1, 0);
        x.step(0, Due.PAUSE, -1, 9, 0);
        due.is("two", x.code(0), 2);
        due.op("1", x, 0, 0, PAUSE, 1, -2, -2, -2, -2);
        due.op("9", x, 0, 1, PAUSE, 9, -2, -2, -2, -2);
    }

    /** "else -2": for each INSTRUCTION the parts that it hasn't. */
    private static void partsThatAreNone() {
        DriverBook x = plains(3, 0);
        x.field(2, 0, 1, Due.FLAG, 0);
        x.handler(4, 0);
        x.step(0, Due.AWAIT, 0, 1, 7);
        x.step(0, Due.GET, 1, 0, 0);
        x.step(0, Due.PAUSE, -1, 3, 0);
        int[][] parts = {
            {LOCK, -2, -2, -2, -2, -2}, {READ, 0, -2, -2, -2, -2}, {WRITE, 0, BY_ACC, 6, 1, -2}, {FREE, -2, -2, -2, -2, -2},
            {POLL, 0, -2, 1, 1, 7}, {READ, 0, -2, -2, -2, -2}, {PICK, 1, -2, -2, -2, -2}, {PAUSE, 3, -2, -2, -2, -2},
        };
        for (int i = 0; i < parts.length; i++) {
            due.op("instruction " + i, x, 0, i, parts[i]);
            due.is("no what -1", x.op(0, i, -1), -1);
            due.is("no what 6", x.op(0, i, 6), -1);
        }
    }

    /** Twelve STEPS make 48 INSTRUCTIONS at the most: twelve GROUPS of LOCK, READ, WRITE, FREE. */
    private static void theLongestCode() {
        DriverBook x = plains(2, 0, 0, 0, 0, 0, 0, 0, 0, 0, 0, 0, 0);
        x.field(2, 0, 1, Due.FLAG, 0);
        x.handler(3, 0);
        due.is("48", x.code(0), 48);
        for (int k = 0; k < 48; k += 4) {
            due.op("LOCK", x, 0, k, LOCK, -2, -2, -2, -2, -2);
            due.op("READ", x, 0, k + 1, READ, 0, -2, -2, -2, -2);
            due.op("WRITE", x, 0, k + 2, WRITE, 0, BY_ACC, 2, 1, -2);
            due.op("FREE", x, 0, k + 3, FREE, -2, -2, -2, -2, -2);
        }
        due.is("no 49th", x.op(0, 48, 0), -1);
        due.is("it RUNS", x.run(0), 24);
    }

    /** FIELD 0 makes its REGISTER SHADOWED like any other. */
    private static void theFirstFieldShadows() {
        for (int kind : new int[] {Due.TAKEN, Due.HELD}) {
            DriverBook x = new DriverBook();
            x.field(0, 15, 1, kind, 0);
            x.field(0, 0, 1, Due.PLAIN, 0);
            x.field(0, 1, 1, Due.PLAIN, 0);
            x.act();
            x.step(0, Due.SET, 1, 1, 0);
            due.op("by SHADOW", x, 0, 0, WRITE, 0, BY_SHADOW, kind == Due.HELD ? 0x8002 : 2, 1, -2);
        }
    }

    /** Promise 2: "No FIELDS, LAWS, ACTS, HANDLERS": a new ACT has no STEPS, whatever the one of its number had. */
    private static void noCodeBehindBegin() {
        DriverBook x = plains(3, 0);
        x.field(2, 0, 1, Due.FLAG, 1);
        x.law(0, 0, 1, 0);
        x.handler(4, 0);
        due.is("LOCK, READ, WRITE, FREE", x.code(0), 4);
        x.begin(4);
        due.is("no ACT", x.code(0), -1);
        due.is("no FIELD", x.peek(0, 0), -1);
        due.is("a new one", x.act(), 0);
        due.is("without CODE", x.code(0), 0);
        due.is("without STEPS", x.bare(0), 0);
        for (int i = 0; i < 5; i++) {
            x.field(0, i, 1, i == 4 ? Due.FLAG : Due.PLAIN, 0);
        }
        x.step(0, Due.SET, 0, 1, 0);
        x.step(0, Due.SET, 1, 1, 0);
        due.is("no HANDLER, no LAW: READ and WRITE", x.code(0), 2);
        due.is("the FLAG's HANDLER", x.handler(4, -1), -1);
    }

    /** The same for each number of an ACT, and with CODE that was looked at between. */
    private static void noCodeOfSixActsBehindBegin() {
        DriverBook x = new DriverBook();
        for (int a = 0; a < 6; a++) {
            x.act();
            x.step(a, Due.PAUSE, -1, 9, 0);
            due.is("one INSTRUCTION", x.code(a), 1);
        }
        x.begin(4);
        for (int a = 0; a < 6; a++) {
            due.is("a new ACT", x.act(), a);
            due.is("its CODE", x.code(a), 0);
            due.is("it RUNS", x.run(a), 0);
            due.is("it has the CODE of the first", x.same(a, 0), 1);
        }
    }

    /** Promise 14: "Whether two ACTS have the same CODE": told anew behind each change, every part of it. */
    private static void theSameCode() {
        int[][] steps = {{Due.SET, 0, 1, 0}, {Due.SET, 0, 0, 0}, {Due.SET, 1, 1, 0}, {Due.AWAIT, 0, 1, 3},
            {Due.AWAIT, 0, 1, 4}, {Due.AWAIT, 0, 0, 3}, {Due.AWAIT, 1, 1, 3}, {Due.GET, 0, 0, 0}, {Due.GET, 1, 0, 0},
            {Due.PAUSE, -1, 1, 0}, {Due.PAUSE, -1, 9, 0}, {Due.SET, 3, 1, 0}, {Due.AWAIT, 3, 1, 3}};
        for (int i = 0; i < steps.length; i++) {
            for (int j = 0; j < steps.length; j++) {
                DriverBook x = plains(3);
                x.act();
                due.is("none and none", x.same(0, 1), 1);
                x.step(0, steps[i][0], steps[i][1], steps[i][2], steps[i][3]);
                due.is("one and none", x.same(0, 1), 0);
                due.is("none and one", x.same(1, 0), 0);
                x.step(1, steps[j][0], steps[j][1], steps[j][2], steps[j][3]);
                due.is(i + " and " + j, x.same(0, 1), i == j ? 1 : 0);
                x.step(0, Due.PAUSE, -1, 3, 0);
                x.step(1, Due.PAUSE, -1, 3, 0);
                due.is(i + " and " + j + ", and a PAUSE", x.same(0, 1), i == j ? 1 : 0);
                x.step(1, Due.PAUSE, -1, 3, 0);
                due.is("one is longer", x.same(0, 1), 0);
            }
        }
        DriverBook x = plains(3, 0, 1);
        x.act();
        x.step(1, Due.SET, 1, 1, 0);
        x.step(1, Due.SET, 0, 1, 0);
        due.is("other STEPS, the same CODE", x.same(0, 1), 1);
        x.law(0, 0, 1, 0);
        due.is("a LAW parts them", x.same(0, 1), 0);
        DriverBook y = new DriverBook();
        y.field(1, 0, 1, Due.PLAIN, 0);
        y.act();
        y.act();
        y.step(0, Due.PAUSE, -1, 1, 0);
        y.step(0, Due.GET, 0, 0, 0);
        y.step(1, Due.PAUSE, -1, 1, 0);
        y.step(1, Due.PAUSE, -1, 2, 0);
        due.is("GET and PAUSE", y.same(0, 1), 0);
        y.bare(0);
        y.bare(1);
        due.is("none and none, behind bare()", y.same(0, 1), 1);
        y.step(0, Due.PAUSE, -1, 1, 0);
        y.step(1, Due.PAUSE, -1, 1, 0);
        due.is("nothing of what was there counts", y.same(0, 1), 1);
    }
}
