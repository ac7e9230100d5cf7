import java.util.List;

/**
 * Two objects with the same past: a call is made on one of them, then all that can be seen of both is compared.
 * Some looks change what they look at, so each look gets two new objects.
 */
final class Twins {
    interface Scene {
        DriverBook make();
    }

    interface Call {
        long on(DriverBook x);
    }

    private interface Look {
        void at(DriverBook x, Seen seen);
    }

    /** What at() throws, as a number that no row of the tests holds. */
    static final long ARGUMENT = Long.MIN_VALUE + 1, STATE = Long.MIN_VALUE + 2;
    private static final int FIELDS = 24, REGISTERS = 8, ACTS = 6, TAPES = 6;

    private static final String[] NAMES = {"state", "counts", "code", "book", "fields", "tapes", "ticks", "writes", "runs",
        "walks"};
    private static final Look[] LOOKS = {Twins::state, Twins::counts, Twins::code, Twins::book, Twins::fields, Twins::tapes,
        Twins::ticks, Twins::writes, Twins::runs, Twins::walks};

    private final Due due;

    Twins(Due due) {
        this.due = due;
    }

    /** A refused call: nothing has changed, but that count(8) has one more where the refusal is one of the host's. */
    void refused(String what, Scene scene, long want, Call call) {
        boolean hosts = want <= DriverBook.NOTHING && want >= DriverBook.THROWN;
        changesNothing(what, scene, want, call, hosts ? 1 : 0);
    }

    /** A call that answers and leaves all as it was. */
    void leaves(String what, Scene scene, long want, Call call) {
        changesNothing(what, scene, want, call, 0);
    }

    /** A call that answers and leaves some things as they were: those that these looks see. */
    void leaves(String what, Scene scene, long want, Call call, String... names) {
        due.is(what, call.on(scene.make()), want);
        for (String name : names) {
            look(what, scene, call, List.of(NAMES).indexOf(name));
        }
    }

    private void changesNothing(String what, Scene scene, long want, Call call, int counted) {
        DriverBook one = scene.make();
        due.is(what, call.on(one), want);
        due.is(what + ": count(8)", one.count(8), scene.make().count(8) + counted);
        for (int k = 0; k < LOOKS.length; k++) {
            look(what, scene, call, k);
        }
    }

    private void look(String what, Scene scene, Call call, int k) {
        DriverBook one = scene.make();
        DriverBook other = scene.make();
        call.on(one);
        Seen now = new Seen();
        Seen before = new Seen();
        LOOKS[k].at(one, now);
        LOOKS[k].at(other, before);
        due.is(what + ": the first change of its " + NAMES[k], now.firstOther(before), -1);
    }

    static long at(DriverBook x, int d, int i) {
        try {
            return x.at(d, i);
        } catch (IllegalArgumentException e) {
            return ARGUMENT;
        } catch (IllegalStateException e) {
            return STATE;
        }
    }

    private static void state(DriverBook x, Seen seen) {
        for (int f = 0; f < FIELDS; f++) {
            for (int what = 0; what < 4; what++) {
                seen.add(x.peek(f, what));
            }
        }
        for (int r = 0; r < REGISTERS; r++) {
            seen.add(x.shadow(r));
        }
        for (int what = 4; what <= 6; what++) {
            seen.add(x.count(what));
        }
        for (int what = 0; what < 3; what++) {
            seen.add(x.breaks(what));
        }
        seen.add(x.result());
    }

    private static void counts(DriverBook x, Seen seen) {
        for (int what = 0; what < 4; what++) {
            seen.add(x.count(what));
        }
        seen.add(x.count(7));
        seen.add(x.why(0));
        seen.add(x.why(1));
    }

    private static void code(DriverBook x, Seen seen) {
        for (int a = 0; a < ACTS; a++) {
            int size = x.code(a);
            seen.add(size);
            // the first and the last ones: all of them would be more calls than an object has
            for (int i = 0; i < size; i += i == 2 && size > 6 ? size - 5 : 1) {
                for (int what = 0; what < 6; what++) {
                    seen.add(x.op(a, i, what));
                }
            }
            seen.add(x.same(a, 0));
        }
    }

    private static void book(DriverBook x, Seen seen) {
        for (int a = 0; a < ACTS; a++) {
            seen.add(x.bare(a));
        }
        for (int f = 0; f < FIELDS; f++) {
            seen.add(x.handler(f, -1));
        }
        seen.add(x.locks(1));
        for (int f = 0; f < FIELDS; f++) {
            seen.add(x.done(f, -1));
            seen.add(x.period(f, 5));
        }
        seen.add(x.act());
        seen.add(x.law(0, 0, 0, 0));
    }

    private static void fields(DriverBook x, Seen seen) {
        seen.add(x.power());
        for (int r = 0; r < REGISTERS; r++) {
            seen.add(x.read(r));
            seen.add(x.write(r, 0xffff));
            seen.add(x.read(r));
            seen.add(x.write(r, 0));
            seen.add(x.read(r));
            for (int low = 0; low < 16; low += 5) {
                seen.add(x.field(r, low, 1, 0, 0));
            }
        }
    }

    private static void tapes(DriverBook x, Seen seen) {
        for (int d = 0; d < TAPES; d++) {
            for (int i = -1; i < 5; i++) {
                seen.add(at(x, d, i));
            }
            seen.add(at(x, d, 63));
            seen.add(at(x, d, 64));
            seen.add(x.put(d, 0, 0x89abcdef89abcdefL));
            seen.add(at(x, d, 0));
            seen.add(x.toss(d));
            int now = x.back(d);
            seen.add(now);
            seen.add(now < 0 ? now : x.breaks(0));
            seen.add(x.clear(d));
        }
    }

    private static void ticks(DriverBook x, Seen seen) {
        for (int k = 0; k < 9; k++) {
            // the last of these brings what is still to come from afar
            seen.add(x.wait(k < 8 ? 1 : 50));
            seen.add(x.count(6));
            for (int f = 0; f < FIELDS; f++) {
                seen.add(x.peek(f, 0));
            }
        }
    }

    private static void writes(DriverBook x, Seen seen) {
        int[] numbers = {0xffff, 0, 0x5555, 0xaaaa};
        for (int number : numbers) {
            for (int r = 0; r < REGISTERS; r++) {
                seen.add(x.write(r, number));
                seen.add(x.breaks(0));
            }
        }
        state(x, seen);
    }

    private static void runs(DriverBook x, Seen seen) {
        for (int k = 0; k < 2 * ACTS; k++) {
            seen.add(x.run(k % ACTS));
            seen.add(x.result());
            seen.add(x.count(4));
            seen.add(x.count(5));
            seen.add(x.breaks(0));
        }
        state(x, seen);
    }

    private static void walks(DriverBook x, Seen seen) {
        for (int a = 0; a < ACTS; a++) {
            for (int f = 0; f < FIELDS; f++) {
                seen.add(x.walk(a, f));
            }
            seen.add(x.why(0));
            seen.add(x.why(1));
        }
    }

    /** The answers of a look. */
    private static final class Seen {
        private final long[] answers = new long[512];
        private int size = 0;

        void add(long answer) {
            answers[size] = answer;
            size++;
        }

        /** The first place where another one has another answer, or -1. */
        int firstOther(Seen other) {
            for (int k = 0; k < Math.max(size, other.size); k++) {
                if (answers[k] != other.answers[k]) {
                    return k;
                }
            }
            return -1;
        }
    }
}
