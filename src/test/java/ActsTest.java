/** Promises 7 to 14: act, step, bare, handler, locks, code, op, same. */
public final class ActsTest {
    private static final int MIN = Integer.MIN_VALUE, MAX = Integer.MAX_VALUE;
    private static final Due due = new Due();

    public static void main(String[] args) {
        act();
        step();
        stepKinds();
        stepFull();
        bare();
        handler();
        locks();
        codeOfGroups();
        codeOfLaws();
        codeOfShadowed();
        codeOfOthers();
        codeFollowsTheBook();
        longestCode();
        codeOfFieldZero();
        codeBehindBegin();
        opRefusals();
        same();
        due.end("ActsTest");
    }

    /** Register 0: one field of each kind, 0 PLAIN .. 6 LOAD, two bits each. */
    private static DriverBook kinds() {
        DriverBook x = new DriverBook();
        for (int kind = 0; kind < 7; kind++) {
            x.field(0, 2 * kind, 2, kind, 0);
        }
        return x;
    }

    private static void act() {
        DriverBook x = new DriverBook();
        for (int a = 0; a < 6; a++) {
            due.is("act", x.act(), a);
            due.is("acts", x.count(3), a + 1);
            due.is("without steps", x.code(a), 0);
        }
        due.is("FULL", x.act(), -3);
        due.is("6 acts", x.count(3), 6);
    }

    private static void step() {
        DriverBook x = kinds();
        x.act();
        int[][] refused = {
            {1, 0, 0, 0, 0}, {-1, 0, 0, 0, 0}, {MAX, 3, -1, 1, 0}, {0, -1, 0, 0, 0}, {0, 4, 0, 0, 0}, {0, MAX, 0, 0, 0},
            {0, 0, 7, 0, 0}, {0, 0, -1, 0, 0}, {0, 1, -1, 0, 0}, {0, 2, -1, 0, 0}, {0, 2, MIN, 0, 0}, {0, 3, 0, 1, 0},
            {0, 3, -2, 1, 0}, {0, 0, 0, 4, 0}, {0, 0, 0, -1, 0}, {0, 1, 0, 4, 0}, {0, 1, 0, MIN, 0}, {0, 2, 0, 1, 0},
            {0, 2, 0, -1, 0}, {0, 3, -1, 0, 0}, {0, 3, -1, 10, 0}, {0, 3, -1, -1, 0}, {0, 0, 0, 0, 1},
            {0, 0, 0, 0, -1}, {0, 1, 0, 0, 21}, {0, 1, 0, 0, -1}, {0, 1, 0, 0, MAX}, {0, 2, 0, 0, 1}, {0, 3, -1, 1, 1},
            {0, 0, 1, 4, 0}, {0, 1, 3, 0, 21},
        };
        for (int[] a : refused) {
            due.is("step(" + a[0] + ", " + a[1] + ", " + a[2] + ", " + a[3] + ", " + a[4] + ")",
                    x.step(a[0], a[1], a[2], a[3], a[4]), -1);
        }
        due.is("no step was told", x.bare(0), 0);
        due.is("SET", x.step(0, Due.SET, 0, 3, 0), 1);
        due.is("AWAIT", x.step(0, Due.AWAIT, 0, 3, 20), 2);
        due.is("AWAIT 0", x.step(0, Due.AWAIT, 0, 0, 0), 3);
        due.is("GET", x.step(0, Due.GET, 3, 0, 0), 4);
        due.is("PAUSE 1", x.step(0, Due.PAUSE, -1, 1, 0), 5);
        due.is("PAUSE 9", x.step(0, Due.PAUSE, -1, 9, 0), 6);
        due.is("steps", x.bare(0), 6);
    }

    private static void stepKinds() {
        DriverBook x = kinds();
        x.act();
        int[][] answers = {
            {1, -4, 1, -4, 1, 1, 1},
            {1, 1, 1, -4, 1, 1, 1},
            {1, 1, 1, 1, 1, 1, 1},
        };
        for (int step = 0; step < 3; step++) {
            for (int kind = 0; kind < 7; kind++) {
                due.is("step " + step + " of kind " + kind, x.step(0, step, kind, 0, 0), answers[step][kind]);
                x.bare(0);
            }
        }
    }

    private static void stepFull() {
        DriverBook x = kinds();
        x.act();
        for (int i = 1; i <= 12; i++) {
            due.is("step " + i, x.step(0, Due.GET, 1, 0, 0), i);
        }
        due.is("FULL", x.step(0, Due.PAUSE, -1, 1, 0), -3);
        due.is("KIND ahead of FULL", x.step(0, Due.SET, 1, 0, 0), -4);
        due.is("NONE ahead of FULL", x.step(0, Due.SET, 0, 4, 0), -1);
        due.is("NONE ahead of KIND", x.step(0, Due.SET, 1, 4, 0), -1);
        due.is("12 steps", x.code(0), 24);
    }

    private static void bare() {
        DriverBook x = kinds();
        due.is("no act", x.bare(0), -1);
        x.act();
        x.act();
        x.step(0, Due.GET, 1, 0, 0);
        x.step(1, Due.GET, 1, 0, 0);
        x.step(1, Due.GET, 2, 0, 0);
        due.is("bare(1)", x.bare(1), 2);
        due.is("bare(1) again", x.bare(1), 0);
        due.is("the other stays", x.code(0), 2);
        due.is("bare(2)", x.bare(2), -1);
        due.is("bare(-1)", x.bare(-1), -1);
        due.is("a step behind", x.step(1, Due.GET, 1, 0, 0), 1);
    }

    private static void handler() {
        DriverBook x = kinds();
        x.act();
        x.act();
        x.write(0, 1);
        due.is("no such field", x.handler(7, 0), -1);
        due.is("no such field", x.handler(-1, 0), -1);
        due.is("no such act", x.handler(2, 2), -1);
        due.is("no such act", x.handler(2, -2), -1);
        due.is("NONE ahead of KIND", x.handler(0, 2), -1);
        for (int kind = 0; kind < 7; kind++) {
            due.is("handler of kind " + kind, x.handler(kind, -1), kind == Due.FLAG ? -1 : -4);
        }
        due.is("handler(2, 0)", x.handler(2, 0), -1);
        due.is("handler(2, 1)", x.handler(2, 1), 0);
        due.is("handler(0, 0)", x.handler(0, 0), -4);
        due.is("handler(2, -1)", x.handler(2, -1), 1);
        due.is("handler(2, -1) again", x.handler(2, -1), -1);
        due.is("a handler doesn't power", x.count(4), 1);
    }

    private static void locks() {
        DriverBook x = new DriverBook();
        due.is("locks(2)", x.locks(2), -1);
        due.is("locks(-1)", x.locks(-1), -1);
        due.is("locks(0)", x.locks(0), 1);
        due.is("count", x.count(7), 0);
        due.is("locks(0) again", x.locks(0), 0);
        due.is("locks(1)", x.locks(1), 0);
        due.is("count", x.count(7), 1);
    }

    private static void codeOfGroups() {
        DriverBook x = new DriverBook();
        x.field(0, 0, 4, Due.PLAIN, 0);
        x.field(0, 4, 4, Due.PLAIN, 0);
        x.field(0, 8, 1, Due.FLAG, 0);
        x.field(0, 9, 2, Due.PULSE, 0);
        x.field(1, 3, 2, Due.PLAIN, 0);
        x.act();
        x.step(0, Due.SET, 0, 5, 0);
        x.step(0, Due.SET, 1, 6, 0);
        x.step(0, Due.SET, 3, 2, 0);
        due.is("one group", x.code(0), 1);
        due.op("all plain fields are set", x, 0, 0, 1, 0, 0, 0, 5 + (6 << 4) + (2 << 9), -2);
        x.bare(0);
        x.step(0, Due.SET, 0, 5, 0);
        x.step(0, Due.SET, 0, 6, 0);
        due.is("a field twice: two groups", x.code(0), 4);
        due.op("read", x, 0, 0, 0, 0, -2, -2, -2, -2);
        due.op("write", x, 0, 1, 1, 0, 1, 0xf0, 5, -2);
        due.op("read again", x, 0, 2, 0, 0, -2, -2, -2, -2);
        due.op("write again", x, 0, 3, 1, 0, 1, 0xf0, 6, -2);
        x.bare(0);
        x.step(0, Due.SET, 2, 1, 0);
        x.step(0, Due.SET, 4, 3, 0);
        x.step(0, Due.SET, 3, 0, 0);
        due.is("three registers in turn", x.code(0), 5);
        due.op("flag alone", x, 0, 1, 1, 0, 1, 0xff, 0x100, -2);
        due.op("register 1", x, 0, 2, 1, 1, 0, 0, 3 << 3, -2);
        due.op("pulse of 0", x, 0, 4, 1, 0, 1, 0xff, 0, -2);
        x.bare(0);
        x.step(0, Due.SET, 4, 1, 0);
        x.step(0, Due.PAUSE, -1, 1, 0);
        x.step(0, Due.SET, 4, 2, 0);
        due.is("a step between ends a group", x.code(0), 3);
        x.bare(0);
        x.step(0, Due.SET, 0, 1, 0);
        x.step(0, Due.PAUSE, -1, 2, 0);
        x.step(0, Due.SET, 1, 1, 0);
        due.is("a pause between two fields", x.code(0), 5);
        due.op("the pause", x, 0, 2, 3, 2, -2, -2, -2, -2);
    }

    private static void codeOfLaws() {
        for (int turn = 0; turn < 2; turn++) {
            DriverBook x = new DriverBook();
            x.field(0, 0, 1, Due.PLAIN, 0);
            x.field(0, 1, 1, Due.PLAIN, 0);
            x.field(0, 2, 1, Due.PLAIN, 0);
            x.act();
            for (int f = 0; f < 3; f++) {
                x.step(0, Due.SET, f, 1, 0);
            }
            due.is("no law", x.code(0), 1);
            x.law(0, 1, 1, 0);
            due.is("a law of one field", x.code(0), 1);
            x.law(2, turn == 0 ? 0 : 2, turn == 0 ? 2 : 0, 0);
            due.is("a law between 0 and 2, either way", x.code(0), 4);
            due.op("0 and 1", x, 0, 1, 1, 0, 1, 4, 3, -2);
            due.op("2", x, 0, 3, 1, 0, 1, 3, 4, -2);
            x.bare(0);
            x.step(0, Due.SET, 0, 1, 0);
            x.step(0, Due.SET, 1, 1, 0);
            due.is("a law with a field outside", x.code(0), 2);
        }
    }

    private static void codeOfShadowed() {
        DriverBook x = new DriverBook();
        x.field(0, 0, 4, Due.PLAIN, 0);
        x.field(0, 4, 2, Due.TAKEN, 0);
        x.field(0, 6, 2, Due.PLAIN, 0);
        x.field(1, 0, 4, Due.HELD, 0);
        x.field(1, 4, 4, Due.HELD, 0);
        x.field(1, 8, 1, Due.LOAD, 0);
        x.field(1, 9, 2, Due.PLAIN, 0);
        x.field(2, 0, 2, Due.FLAG, 0);
        x.act();
        x.act();
        x.handler(7, 1);
        x.step(0, Due.SET, 0, 9, 0);
        due.is("taken: by shadow, no lock", x.code(0), 1);
        due.op("taken", x, 0, 0, 1, 0, 2, 0xc0, 9, -2);
        x.bare(0);
        x.step(0, Due.SET, 3, 7, 0);
        x.step(0, Due.SET, 5, 1, 0);
        due.op("held", x, 0, 0, 1, 1, 2, 0x6f0, 0x107, -2);
        due.is("held: by shadow", x.code(0), 1);
        x.bare(0);
        x.step(0, Due.SET, 5, 1, 0);
        due.op("load alone", x, 0, 0, 1, 1, 2, 0x6ff, 0x100, -2);
        x.step(0, Due.SET, 3, 1, 0);
        x.step(0, Due.SET, 4, 2, 0);
        x.step(0, Due.SET, 6, 3, 0);
        due.op("nothing to keep", x, 0, 0, 1, 1, 0, 0, 0x100 + 1 + (2 << 4) + (3 << 9), -2);
        x.bare(0);
        x.step(0, Due.SET, 7, 1, 0);
        due.is("a flag alone in its register", x.code(0), 1);
        due.op("a flag alone", x, 0, 0, 1, 2, 0, 0, 1, -2);
    }

    private static void codeOfOthers() {
        DriverBook x = new DriverBook();
        x.field(2, 5, 3, Due.STATUS, 0);
        x.field(2, 8, 2, Due.TAKEN, 0);
        x.act();
        x.step(0, Due.AWAIT, 0, 5, 20);
        x.step(0, Due.GET, 1, 0, 0);
        x.step(0, Due.PAUSE, -1, 9, 0);
        due.is("instructions", x.code(0), 4);
        due.op("POLL", x, 0, 0, 2, 2, -2, 7 << 5, 5 << 5, 20);
        due.op("READ", x, 0, 1, 0, 2, -2, -2, -2, -2);
        due.op("PICK", x, 0, 2, 4, 1, -2, -2, -2, -2);
        due.op("PAUSE", x, 0, 3, 3, 9, -2, -2, -2, -2);
    }

    private static void codeFollowsTheBook() {
        DriverBook x = new DriverBook();
        x.field(0, 0, 2, Due.PLAIN, 0);
        x.act();
        x.act();
        x.step(0, Due.SET, 0, 2, 0);
        due.is("alone in its register", x.code(0), 1);
        x.field(0, 2, 1, Due.FLAG, 0);
        due.is("a flag isn't kept", x.code(0), 1);
        x.field(0, 3, 1, Due.PLAIN, 0);
        due.is("read and write", x.code(0), 2);
        x.handler(1, 1);
        due.is("with a handler", x.code(0), 4);
        due.op("LOCK", x, 0, 0, 5, -2, -2, -2, -2, -2);
        due.op("READ", x, 0, 1, 0, 0, -2, -2, -2, -2);
        due.op("WRITE", x, 0, 2, 1, 0, 1, 8, 2, -2);
        due.op("FREE", x, 0, 3, 6, -2, -2, -2, -2, -2);
        x.locks(0);
        due.is("locks off", x.code(0), 2);
        x.locks(1);
        x.handler(1, -1);
        due.is("no handler", x.code(0), 2);
        x.field(0, 4, 1, Due.TAKEN, 0);
        due.is("shadowed now", x.code(0), 1);
        due.op("by shadow", x, 0, 0, 1, 0, 2, 8, 2, -2);
    }

    private static void longestCode() {
        DriverBook x = new DriverBook();
        x.field(0, 0, 2, Due.PLAIN, 0);
        x.field(0, 2, 2, Due.PLAIN, 0);
        x.field(0, 4, 2, Due.FLAG, 0);
        x.act();
        x.handler(2, 0);
        for (int i = 0; i < 12; i++) {
            x.step(0, Due.SET, 0, i % 4, 0);
        }
        due.is("twelve groups", x.code(0), 48);
        due.op("the last WRITE", x, 0, 46, 1, 0, 1, 12, 3, -2);
        due.op("the last FREE", x, 0, 47, 6, -2, -2, -2, -2, -2);
        due.is("run", x.run(0), 24);
    }

    /** The first field and the first law count like all others. */
    private static void codeOfFieldZero() {
        for (int kind = 3; kind <= 5; kind += 2) {
            DriverBook x = new DriverBook();
            x.field(0, 0, 1, kind, 0);
            x.field(0, 1, 1, Due.PLAIN, 0);
            x.field(0, 2, 1, Due.PLAIN, 0);
            x.act();
            x.step(0, Due.SET, 1, 1, 0);
            x.step(0, Due.SET, 2, 1, 0);
            due.is("shadowed by field 0, kind " + kind, x.op(0, 0, 2), kind == Due.HELD ? 2 : 0);
            x.law(0, 1, 2, 0);
            due.is("bound by law 0", x.code(0), 2);
            due.is("by shadow", x.op(0, 0, 2), 2);
        }
    }

    private static void codeBehindBegin() {
        DriverBook x = new DriverBook();
        x.tape(0, 3, 1);
        x.act();
        x.step(0, Due.PAUSE, -1, 5, 0);
        due.is("one instruction", x.code(0), 1);
        x.begin(4);
        due.is("no act", x.code(0), -1);
        due.is("nothing runs", x.play(0, 0, 1), 0);
        x.act();
        due.is("a new act has no code", x.code(0), 0);
        due.is("nor does it run", x.run(0), 0);
    }

    private static void opRefusals() {
        DriverBook x = kinds();
        due.is("code of none", x.code(0), -1);
        x.act();
        due.is("code(1)", x.code(1), -1);
        due.is("code(-1)", x.code(-1), -1);
        due.is("no instruction", x.op(0, 0, 0), -1);
        x.step(0, Due.PAUSE, -1, 1, 0);
        int[][] refused = {{1, 0, 0}, {-1, 0, 0}, {0, 1, 0}, {0, -1, 0}, {0, MAX, 0}, {0, MIN, 5}, {0, 0, 6}, {0, 0, -1}};
        for (int[] a : refused) {
            due.is("op(" + a[0] + ", " + a[1] + ", " + a[2] + ")", x.op(a[0], a[1], a[2]), -1);
        }
        due.is("op", x.op(0, 0, 0), 3);
    }

    private static void same() {
        DriverBook x = new DriverBook();
        x.field(0, 0, 2, Due.PLAIN, 0);
        x.field(0, 2, 2, Due.PLAIN, 0);
        x.field(0, 4, 2, Due.STATUS, 0);
        x.act();
        x.act();
        due.is("same(0, 2)", x.same(0, 2), -1);
        due.is("same(2, 0)", x.same(2, 0), -1);
        due.is("same(-1, 0)", x.same(-1, 0), -1);
        due.is("both empty", x.same(0, 1), 1);
        x.step(0, Due.SET, 0, 1, 0);
        due.is("one is longer", x.same(0, 1), 0);
        x.step(0, Due.SET, 1, 2, 0);
        x.step(1, Due.SET, 1, 2, 0);
        x.step(1, Due.SET, 0, 1, 0);
        due.is("other steps, the same code", x.same(0, 1), 1);
        int[][] first = {{0, 0, 1, 0}, {1, 2, 1, 3}, {1, 2, 1, 3}, {2, 0, 0, 0}, {3, -1, 1, 0}, {0, 0, 1, 0}};
        int[][] second = {{0, 0, 2, 0}, {1, 2, 1, 4}, {1, 2, 2, 3}, {2, 1, 0, 0}, {3, -1, 2, 0}, {0, 1, 1, 0}};
        for (int k = 0; k < first.length; k++) {
            x.bare(0);
            x.bare(1);
            x.step(0, first[k][0], first[k][1], first[k][2], first[k][3]);
            x.step(1, second[k][0], second[k][1], second[k][2], second[k][3]);
            due.is("other code " + k, x.same(0, 1), 0);
            due.is("itself", x.same(1, 1), 1);
        }
    }
}
