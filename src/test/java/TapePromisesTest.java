/** Promises 27 to 36: a method for each, which goes through the promise's words from the first to the last. */
public final class TapePromisesTest {
    private static final int NONE = -1, FULL = -3, UNABLE = -7;
    private static final int NOTHING = -11, CAST = -12, PLACE = -13, SIZE = -14, THROWN = -15;
    private static final int MIN = Integer.MIN_VALUE, MAX = Integer.MAX_VALUE;
    private static final int[] NO_TAPES = {-1, 6, MIN, MAX};
    private static final Due due = new Due();
    private static final Twins twins = new Twins(due);

    public static void main(String[] args) {
        promise27Tape();
        promise28Image();
        promise29Back();
        promise29BackRefused();
        promise30Toss();
        promise31Play();
        promise31PlayRefused();
        promise32Clear();
        promise33Put();
        promise34At();
        promise35Copy();
        promise35CopyRefused();
        promise36Count();
        due.end("TapePromisesTest");
    }

    /** The host's refusals are counted since begin(). */
    private static void refusals(DriverBook x, int want) {
        due.is("refusals of the host's", x.count(8), want);
    }

    /** "TAPE d gets a row of n elements, all 0, of a sort (1 .. 4): n. NONE: no such TAPE, sort, n above 64; SIZE." */
    private static void promise27Tape() {
        DriverBook x = new DriverBook();
        x.wait(2);
        int[] sizes = {0, 1, 2, 63, 64, 5};
        for (int d = 0; d < 6; d++) {
            int sort = 1 + d % 4;
            due.is("n", x.tape(d, sort, sizes[d]), sizes[d]);
            for (int i = 0; i < sizes[d]; i += 1 + i / 2) {
                due.is("all 0", x.at(d, i), 0);
            }
            due.atThrows("no more than n", x, d, sizes[d], 2);
            due.is("of that sort", x.clear(d), sort);
        }
        x.tape(0, 1, 3);
        x.put(0, 2, 7);
        due.is("a row in the place of a row", x.tape(0, 4, 3), 3);
        due.is("all 0 again", x.at(0, 2), 0);
        due.is("of the new sort", x.put(0, 2, 1L << 40) + x.at(0, 2), 1 + (1L << 40));
        x.image(1);
        due.is("a row in the place of an IMAGE", x.tape(1, 2, 1), 1);
        due.is("the IMAGE is gone", x.back(1), CAST);
        refusals(x, 1);
        for (int[] a : new int[][] {{-1, 1, 1}, {6, 1, 1}, {MAX, 1, 1}, {0, 0, 1}, {0, 5, 1}, {0, -1, 1}, {0, MIN, 1}, {0, 1, 65},
            {0, 4, MAX}, {6, 1, -1}, {0, 0, -1}, {0, 5, MIN}, {-1, 9, 65}}) {
            due.is(Due.call("tape", a[0], a[1], a[2]), x.tape(a[0], a[1], a[2]), NONE);
        }
        refusals(x, 1);
        due.is("SIZE", x.tape(0, 1, -1), SIZE);
        due.is("SIZE", x.tape(0, 4, MIN), SIZE);
        due.is("SIZE, also where nothing is held", x.tape(3, 1, -1), SIZE);
        refusals(x, 4);
        due.is("what was refused changed no row", x.at(0, 2), 1L << 40);
        due.is("nor made one", x.clear(3), 0);
        due.is("no TICK passed", x.count(4), 2);
    }

    /** "TAPE d gets an IMAGE of the STATE (with EVENTS, HITS, BREAKS, SERVED, NOW): NOW. NONE: no such TAPE." */
    private static void promise28Image() {
        DriverBook x = Scenes.rich();
        int held = x.count(8);
        for (int d : NO_TAPES) {
            due.is(Due.call("image", d), x.image(d), NONE);
        }
        for (int d = 0; d < 6; d++) {
            due.is("NOW", x.image(d), 15);
            due.is("an IMAGE, whatever it held", x.clear(d), 5);
        }
        refusals(x, held);
        // the IMAGE is all of the STATE: what was done behind it is gone, and what comes is as if it hadn't been
        twins.leaves("the STATE is in it", Scenes::rich, 15, y -> {
            y.image(0);
            y.write(0, 1);
            y.run(1);
            y.run(3);
            y.event(7, 1, 1000);
            y.read(0);
            y.wait(50);
            y.power();
            return y.back(0);
        }, "state", "counts", "code", "book", "fields", "ticks", "writes", "runs", "walks");
        twins.leaves("it changes nothing but the TAPE", Scenes::rich, 15, y -> y.image(0), "state", "counts", "code", "book",
                "fields", "ticks", "writes", "runs", "walks");
        DriverBook z = new DriverBook();
        due.is("at NOW 0, without FIELDS", z.image(3), 0);
        z.wait(9);
        due.is("a second one on the same TAPE", z.image(3), 9);
        z.wait(1);
        due.is("is the one that is held", z.back(3), 9);
    }

    /** "The STATE becomes that of the IMAGE on TAPE d: NOW." */
    private static void promise29Back() {
        DriverBook x = Scenes.rich();
        x.image(0);
        x.law(0, 0, 0, 0);
        x.act();
        x.step(2, Due.PAUSE, -1, 9, 0);
        x.handler(1, 2);
        x.locks(1);
        x.wait(30);
        due.is("NOW", x.back(0), 15);
        due.is("NOW", x.count(4), 15);
        due.is("values", 100 * x.peek(0, 0) + 10 * x.peek(3, 1) + x.peek(5, 2), 100 * 12 + 10 * 6 + 6);
        due.is("SHADOWS", x.shadow(3), 0x54);
        due.is("a SOFT", x.peek(2, 3), 1);
        due.is("RESULT", x.result(), 9);
        due.is("BREAKS", 100 * x.breaks(0) + 10 * x.breaks(1) + x.breaks(2), 200);
        due.is("EVENTS", x.count(6), Scenes.rich().count(6));
        due.is("SERVED", x.count(5), Scenes.rich().count(5));
        due.is("the book is as it was told since", 100 * x.count(2) + 10 * x.count(3) + x.count(7), 451);
        due.is("STEPS too", x.bare(2), 1);
        due.is("HANDLERS too", x.handler(1, -1), 2);
        due.is("the last WALK too", x.why(0), 3);
        due.is("an earlier IMAGE", x.back(5), 12);
        due.is("a later one again", x.back(0), 15);
        x.write(0, 0);
        due.is("it is no part of the STATE: as often as is wanted", x.back(0), 15);
        due.is("its values", x.peek(0, 0), 12);
        due.is("it is still held", x.clear(0), 5);
        x.image(1);
        x.wait(1);
        x.image(2);
        due.is("two of them", x.back(1), 15);
        due.is("two of them", x.back(2), 16);
    }

    /**
     * "NONE: no such TAPE; NOTHING; CAST; UNABLE: since it was made there was a begin(), field(), period() or done() that
     * wasn't refused."
     */
    private static void promise29BackRefused() {
        for (int d : NO_TAPES) {
            twins.refused(Due.call("back", d), Scenes::rich, NONE, x -> x.back(d));
        }
        twins.refused("NOTHING", Scenes::rich, NOTHING, x -> x.back(0));
        for (int sort = 1; sort <= 4; sort++) {
            int d = sort;
            twins.refused("CAST", Scenes::rich, CAST, x -> x.back(d));
        }
        Twins.Call[] refused = {x -> x.begin(0), x -> x.field(0, 0, 1, 0, 0), x -> x.period(0, 1), x -> x.done(5, 0)};
        Twins.Call[] taken = {x -> x.begin(5), x -> x.field(4, 0, 1, 0, 0), x -> x.period(5, 9), x -> x.done(5, 7)};
        for (int k = 0; k < 4; k++) {
            DriverBook x = Scenes.rich();
            due.is("refused", refused[k].on(x) < 0 ? 1 : 0, 1);
            due.is("behind one that was refused", x.back(5), 12);
            taken[k].on(x);
            int hosts = x.count(8);
            due.is("behind one that wasn't", x.back(5), UNABLE);
            due.is("it changes nothing", x.count(4), 0);
            refusals(x, hosts);
            due.is("the IMAGE is still held", x.image(0) + x.clear(5), 5);
            due.is("one that was made since", x.back(0), 0);
        }
        DriverBook y = Scenes.rich();
        y.law(0, 0, 0, 0);
        y.act();
        y.step(2, Due.PAUSE, -1, 1, 0);
        y.bare(3);
        y.handler(7, -1);
        y.locks(1);
        y.power();
        due.is("behind all other calls", y.back(5), 12);
    }

    /**
     * "The failure of the IMAGE on TAPE d is thrown, and caught: its BREAKS. NONE: no such TAPE; NOTHING; CAST; THROWN: one
     * without BREAKS has none."
     */
    private static void promise30Toss() {
        twins.leaves("its BREAKS", Scenes::rich, 2, x -> x.toss(5));
        for (int d : NO_TAPES) {
            twins.refused(Due.call("toss", d), Scenes::rich, NONE, x -> x.toss(d));
        }
        twins.refused("NOTHING", Scenes::rich, NOTHING, x -> x.toss(0));
        for (int sort = 1; sort <= 4; sort++) {
            int d = sort;
            twins.refused("CAST", Scenes::rich, CAST, x -> x.toss(d));
        }
        DriverBook x = new DriverBook();
        x.field(0, 0, 8, Due.PLAIN, 0);
        x.law(2, 0, 0, 255);
        x.write(0, 1);
        x.image(0);
        x.write(0, 2);
        x.image(1);
        x.write(0, 3);
        due.is("THROWN", x.toss(0), THROWN);
        refusals(x, 1);
        due.is("those of the IMAGE, not of now", x.toss(1), 1);
        x.image(0);
        due.is("two", x.toss(0), 2);
        due.is("again", x.toss(0), 2);
        refusals(x, 1);
        x.power();
        due.is("also when there are none now", x.toss(1), 1);
        due.is("the IMAGE is still held", x.back(1), 2);
        due.is("and none was made by it", x.breaks(0), 1);
    }

    /** ACTS 0 to 2 PAUSE for 1 to 3 TICKS, ACT 3 has a TIMEOUT, ACT 4 has no STEPS; TAPE 2 is a row of ints that names some. */
    private static DriverBook player(int... acts) {
        DriverBook x = new DriverBook();
        x.field(0, 0, 1, Due.STATUS, 0);
        for (int a = 0; a < 5; a++) {
            x.act();
        }
        for (int a = 0; a < 3; a++) {
            x.step(a, Due.PAUSE, -1, 1 + a, 0);
        }
        x.step(3, Due.AWAIT, 0, 1, 3);
        x.tape(2, 3, acts.length);
        for (int i = 0; i < acts.length; i++) {
            x.put(2, i, acts[i]);
        }
        return x;
    }

    private static void play(String what, DriverBook x, int i, int n, int want, int ticks) {
        int now = x.count(4);
        due.is(what, x.play(2, i, n), want);
        due.is(what + ": TICKS", x.count(4) - now, ticks);
    }

    /**
     * "ACTS from the row of ints on TAPE d, n of them from place i on, RUN one after the other, up to the first that is NONE or
     * a TIMEOUT: how many RAN without."
     */
    private static void promise31Play() {
        DriverBook x = player(0, 1, 2, 4, 3, 0, 5, -1);
        play("none", x, 0, 0, 0, 0);
        play("one", x, 0, 1, 1, 1);
        play("three", x, 0, 3, 3, 6);
        play("from place 1 on", x, 1, 2, 2, 5);
        play("an ACT without STEPS RUNS too", x, 2, 2, 2, 3);
        play("up to a TIMEOUT, whose TICKS stay", x, 0, 8, 4, 10);
        play("a TIMEOUT first", x, 4, 2, 0, 4);
        play("up to an ACT that there isn't", x, 5, 2, 1, 1);
        play("that one first", x, 6, 1, 0, 0);
        play("one below 0 first", x, 7, 1, 0, 0);
        due.is("the row stays", x.at(2, 4), 3);
        refusals(x, 0);
        x.event(0, 1, x.count(4) + 1);
        play("without a TIMEOUT now", x, 4, 2, 2, 3);
        int[] zeros = new int[64];
        DriverBook y = player(zeros);
        play("64 of them", y, 0, 64, 64, 64);
        DriverBook z = player(MAX, MIN, 0);
        play("no such ACT", z, 0, 3, 0, 0);
        play("no such ACT", z, 1, 2, 0, 0);
        play("the last place", z, 2, 1, 1, 1);
    }

    /**
     * "NONE: no such TAPE, n is not 0 .. 64; NOTHING; CAST: it is no row of ints; PLACE: the row ends ahead of one that is wanted
     * (those ahead of it RAN all the same)."
     */
    private static void promise31PlayRefused() {
        for (int d : NO_TAPES) {
            twins.refused(Due.call("play", d, 0, 1), Scenes::rich, NONE, x -> x.play(d, 0, 1));
        }
        for (int n : new int[] {-1, 65, MIN, MAX}) {
            twins.refused(Due.call("play", 3, 0, n), Scenes::rich, NONE, x -> x.play(3, 0, n));
            twins.refused("NONE ahead of NOTHING", Scenes::rich, NONE, x -> x.play(0, 0, n));
            twins.refused("NONE ahead of CAST", Scenes::rich, NONE, x -> x.play(5, 0, n));
        }
        twins.refused("NOTHING", Scenes::rich, NOTHING, x -> x.play(0, 0, 1));
        twins.refused("NOTHING ahead of PLACE", Scenes::rich, NOTHING, x -> x.play(0, 9, 0));
        for (int d : new int[] {1, 2, 4, 5}) {
            twins.refused("CAST", Scenes::rich, CAST, x -> x.play(d, 0, 1));
            twins.refused("CAST, also of none", Scenes::rich, CAST, x -> x.play(d, 9, 0));
        }
        for (int i : new int[] {4, 64, MAX, -1, MIN}) {
            twins.refused("PLACE at once", Scenes::rich, PLACE, x -> x.play(3, i, 1));
        }
        DriverBook x = player(0, 1, 2);
        play("the row ends ahead of the fourth", x, 0, 4, PLACE, 6);
        refusals(x, 1);
        play("those ahead of it RAN all the same", x, 2, 64, PLACE, 3);
        refusals(x, 2);
        play("the row ends just behind the last", x, 0, 3, 3, 6);
        play("just behind the row", x, 3, 1, PLACE, 0);
        DriverBook y = player(0, 3, 1);
        play("a TIMEOUT ahead of the end is the first", y, 0, 9, 1, 5);
        DriverBook z = player(0, 9, 1);
        play("an ACT that there isn't ahead of the end is the first", z, 0, 9, 1, 1);
        refusals(z, 0);
    }

    /** "TAPE d holds nothing: what it held (0 nothing, 1 .. 5). NONE: no such TAPE." */
    private static void promise32Clear() {
        for (int d : NO_TAPES) {
            twins.refused(Due.call("clear", d), Scenes::rich, NONE, x -> x.clear(d));
        }
        DriverBook x = Scenes.rich();
        int hosts = x.count(8);
        for (int d = 0; d < 6; d++) {
            due.is("what it held", x.clear(d), d);
            due.is("nothing", x.clear(d), 0);
            if (d < 5) {
                due.is("the others hold what they held", x.toss(5), 2);
            }
            due.atThrows("no row", x, d, 0, 2);
        }
        refusals(x, hosts);
        due.is("no row", x.put(1, 0, 0), NOTHING);
        due.is("no IMAGE", x.back(5), NOTHING);
        x.tape(4, 4, 4);
        due.is("a row again, all 0", x.at(4, 3), 0);
        twins.leaves("it changes nothing but the TAPE", Scenes::rich, 5, y -> y.clear(5), "state", "counts", "code", "book", "fields",
                "ticks", "writes", "runs", "walks");
    }

    /** "Element i of the row on TAPE d becomes v, narrowed to its sort: 1. NONE: no such TAPE; NOTHING; CAST; PLACE." */
    private static void promise33Put() {
        DriverBook x = Scenes.rich();
        int hosts = x.count(8);
        long[] numbers = {0, -1, 127, 128, 255, 256, 32767, 32768, 65536, 2147483647L, 2147483648L, 4294967295L, 1L << 32,
            Long.MAX_VALUE, Long.MIN_VALUE, 0x89abcdef89abcdefL};
        for (long v : numbers) {
            for (int sort = 1; sort <= 4; sort++) {
                due.is(Due.call("put", sort, 2, v), x.put(sort, 2, v), 1);
                due.is("narrowed to sort " + sort, x.at(sort, 2), sort == 1 ? (byte) v : sort == 2 ? (short) v : sort == 3 ? (int) v : v);
            }
        }
        due.is("the others stay", x.at(4, 1) + x.at(4, 3), 84);
        due.is("the first place", x.put(1, 0, 5) + x.at(1, 0), 6);
        due.is("the last place", x.put(1, 3, 6) + x.at(1, 3), 7);
        refusals(x, hosts);
        for (int d : NO_TAPES) {
            twins.refused(Due.call("put", d, 0, 0), Scenes::rich, NONE, y -> y.put(d, 0, 0));
            twins.refused(Due.call("put", d, 9, 0), Scenes::rich, NONE, y -> y.put(d, 9, 0));
        }
        twins.refused("NOTHING", Scenes::rich, NOTHING, y -> y.put(0, 0, 7));
        twins.refused("NOTHING ahead of PLACE", Scenes::rich, NOTHING, y -> y.put(0, -1, 7));
        twins.refused("CAST", Scenes::rich, CAST, y -> y.put(5, 0, 7));
        twins.refused("CAST ahead of PLACE", Scenes::rich, CAST, y -> y.put(5, -1, 7));
        for (int i : new int[] {-1, 4, 63, 64, MIN, MAX}) {
            twins.refused(Due.call("put", 1, i, 7), Scenes::rich, PLACE, y -> y.put(1, i, 7));
        }
    }

    /**
     * "Element i of the row on TAPE d. IllegalArgumentException: no such TAPE; IllegalStateException: it holds no row, or that
     * has no such place."
     */
    private static void promise34At() {
        DriverBook x = Scenes.rich();
        for (int sort = 1; sort <= 4; sort++) {
            for (int i = 0; i < 4; i++) {
                due.is(Due.call("at", sort, i), x.at(sort, i), sort == 3 ? i % 2 : 10 * sort + i);
            }
            for (int i : new int[] {-1, 4, 64, MIN, MAX}) {
                due.atThrows("no such place", x, sort, i, 2);
            }
        }
        for (int d : NO_TAPES) {
            due.atThrows("no such TAPE", x, d, 0, 1);
            due.atThrows("no such TAPE, nor place", x, d, -1, 1);
        }
        for (int i : new int[] {-1, 0, 64}) {
            due.atThrows("it holds nothing", x, 0, i, 2);
            due.atThrows("it holds an IMAGE", x, 5, i, 2);
        }
        refusals(x, Scenes.rich().count(8));
        twins.leaves("at", Scenes::rich, 13, y -> y.at(1, 3));
        twins.leaves("at of no TAPE", Scenes::rich, Twins.ARGUMENT, y -> Twins.at(y, 6, 0));
        twins.leaves("at of no row", Scenes::rich, Twins.STATE, y -> Twins.at(y, 5, 0));
        twins.leaves("at of no place", Scenes::rich, Twins.STATE, y -> Twins.at(y, 1, 4));
    }

    /** TAPES 0 and 1 hold rows of that sort: 1 .. 5, and 0s; TAPE 2 nothing, 3 an IMAGE, 4 another sort, 5 no places. */
    private static DriverBook rows(int sort) {
        DriverBook x = new DriverBook();
        x.tape(0, sort, 5);
        x.tape(1, sort, 5);
        for (int i = 0; i < 5; i++) {
            x.put(0, i, i + 1);
        }
        x.image(3);
        x.tape(4, 1 + sort % 4, 5);
        x.tape(5, sort, 0);
        return x;
    }

    private static void row(String what, DriverBook x, int d, int... want) {
        for (int i = 0; i < want.length; i++) {
            due.is(what + ": " + Due.call("at", d, i), x.at(d, i), want[i]);
        }
    }

    /** "n elements of the row on TAPE d from place i on go to the row on TAPE e from place j on (as they all were before): n." */
    private static void promise35Copy() {
        for (int sort = 1; sort <= 4; sort++) {
            DriverBook x = rows(sort);
            due.is("n", x.copy(0, 1, 1, 2, 3), 3);
            row("they go", x, 1, 0, 0, 2, 3, 4);
            row("they stay too", x, 0, 1, 2, 3, 4, 5);
            due.is("upward within a row", x.copy(0, 0, 0, 1, 4), 4);
            row("as they all were before", x, 0, 1, 1, 2, 3, 4);
            due.is("downward within a row", x.copy(0, 1, 0, 0, 4), 4);
            row("as they all were before", x, 0, 1, 2, 3, 4, 4);
            due.is("all of them", x.copy(0, 0, 1, 0, 5), 5);
            row("all of them", x, 1, 1, 2, 3, 4, 4);
            due.is("none", x.copy(0, 0, 1, 3, 0), 0);
            due.is("none, behind the last places", x.copy(0, 5, 1, 5, 0), 0);
            due.is("none of a row without places", x.copy(5, 0, 0, 0, 0), 0);
            row("none", x, 1, 1, 2, 3, 4, 4);
            refusals(x, 0);
            due.is("no TICK passed", x.count(4), 0);
        }
        DriverBook y = new DriverBook();
        y.tape(0, 4, 1);
        y.tape(1, 4, 1);
        y.put(0, 0, Long.MIN_VALUE);
        due.is("a long one", y.copy(0, 0, 1, 0, 1) + y.at(1, 0), 1 + Long.MIN_VALUE);
    }

    /**
     * "NONE: no such TAPE; NOTHING: of either; CAST: one is no row, or they are of two sorts; PLACE: n, i or j is below 0, or a
     * row has not so many."
     */
    private static void promise35CopyRefused() {
        DriverBook x = rows(2);
        int hosts = 0;
        int[][] calls = {
            {-1, 0, 0, 0, 1, NONE}, {6, 0, 0, 0, 1, NONE}, {0, 0, -1, 0, 1, NONE}, {0, 0, 6, 0, 1, NONE}, {MAX, 0, MIN, 0, 1, NONE},
            {6, 0, 2, 0, 1, NONE}, {3, -1, 6, 0, -1, NONE}, {2, 0, 0, 0, 1, NOTHING}, {0, 0, 2, 0, 1, NOTHING},
            {2, 0, 2, 0, 0, NOTHING}, {2, 0, 3, 0, 1, NOTHING}, {3, 0, 2, 0, 1, NOTHING}, {2, -1, 0, 0, -1, NOTHING},
            {3, 0, 0, 0, 1, CAST}, {0, 0, 3, 0, 1, CAST}, {3, 0, 3, 0, 0, CAST}, {0, 0, 4, 0, 1, CAST}, {4, 0, 0, 0, 1, CAST},
            {0, -1, 4, 0, -1, CAST}, {0, 0, 1, 0, -1, PLACE}, {0, -1, 1, 0, 1, PLACE}, {0, 0, 1, -1, 1, PLACE},
            {0, -1, 1, 0, 0, PLACE}, {0, 0, 1, -1, 0, PLACE}, {0, 0, 1, 0, 6, PLACE}, {0, 1, 1, 0, 5, PLACE}, {0, 0, 1, 1, 5, PLACE},
            {0, 6, 1, 0, 0, PLACE}, {0, 0, 1, 6, 0, PLACE}, {0, 5, 1, 0, 1, PLACE}, {0, 0, 1, 5, 1, PLACE}, {0, 0, 5, 0, 1, PLACE},
            {5, 0, 0, 0, 1, PLACE}, {0, MAX, 1, 0, 1, PLACE}, {0, 1, 1, MAX, MAX, PLACE}, {0, MIN, 1, 0, MIN, PLACE},
            {0, MAX, 1, MAX, MAX, PLACE}, {0, 0, 1, 0, MAX, PLACE},
        };
        for (int[] a : calls) {
            due.is(Due.call("copy", a[0], a[1], a[2], a[3], a[4]), x.copy(a[0], a[1], a[2], a[3], a[4]), a[5]);
            hosts += a[5] == NONE ? 0 : 1;
            refusals(x, hosts);
        }
        row("nothing went", x, 0, 1, 2, 3, 4, 5);
        row("nothing came", x, 1, 0, 0, 0, 0, 0);
        twins.refused("a copy of too many", Scenes::rich, PLACE, y -> y.copy(1, 0, 1, 1, 4));
    }

    /**
     * "0 REGISTERS, 1 FIELDS, 2 LAWS, 3 ACTS, 4 NOW, 5 SERVED, 6 EVENTS to come, 7 LOCKS, 8 refusals of the host's (-11 to -15)
     * since begin(). NONE for another what."
     */
    private static void promise36Count() {
        DriverBook x = Scenes.rich();
        int[] rich = {5, 11, 3, 4, 15, 1, 4, 0, 1};
        for (int what = 0; what < 9; what++) {
            due.is(Due.call("count", what), x.count(what), rich[what]);
        }
        for (int what : new int[] {-1, 9, 10, MIN, MAX}) {
            due.is(Due.call("count", what), x.count(what), NONE);
        }
        int[] full = {8, 24, 12, 6, 2, 0, 16, 1, 0};
        DriverBook y = Scenes.full();
        for (int what = 0; what < 9; what++) {
            due.is(Due.call("count", what), y.count(what), full[what]);
        }
        due.is("NOTHING", x.put(0, 0, 0), NOTHING);
        refusals(x, 2);
        due.is("CAST", x.back(1), CAST);
        refusals(x, 3);
        due.is("PLACE", x.put(1, 4, 0), PLACE);
        refusals(x, 4);
        due.is("SIZE", x.tape(0, 1, -1), SIZE);
        refusals(x, 5);
        x.power();
        x.image(0);
        due.is("THROWN", x.toss(0), THROWN);
        refusals(x, 6);
        due.is("NONE isn't the host's", x.put(6, 0, 0), NONE);
        due.is("FULL isn't", y.act(), FULL);
        due.atThrows("what at throws isn't", x, 0, 0, 2);
        due.is("a field more", x.field(4, 0, 1, Due.PLAIN, 0), 11);
        due.is("UNABLE isn't", x.back(0), UNABLE);
        due.is("LATE isn't", x.event(7, 0, 0), -6);
        due.is("TIMEOUT isn't", x.run(3), -5);
        due.is("KIND isn't", x.period(0, 1), -4);
        due.is("OVERLAP isn't", x.field(0, 0, 1, 0, 0), -2);
        refusals(x, 6);
        refusals(y, 0);
        due.is("a begin that is refused", x.begin(9), NONE);
        refusals(x, 6);
        x.begin(1);
        refusals(x, 0);
        twins.leaves("count", Scenes::rich, 15, z -> z.count(4));
    }
}
