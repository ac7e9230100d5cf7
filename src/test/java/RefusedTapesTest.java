/**
 * Promises 27 to 36, their bounds and refusals: for each the last number that is allowed and the first that isn't, two
 * refusals at once, and behind each refused call that nothing has changed but for count(8).
 */
public final class RefusedTapesTest {
    private static final int MIN = Integer.MIN_VALUE, MAX = Integer.MAX_VALUE;
    private static final int NONE = -1, UNABLE = -7;
    private static final int NOTHING = -11, CAST = -12, PLACE = -13, SIZE = -14, THROWN = -15;
    private static final int[] NO_TAPES = {-1, 6, MIN, MAX};
    private static final Due due = new Due();
    private static final Twins twins = new Twins(due);

    public static void main(String[] args) {
        tapeNoSuchTape();
        tapeNoSuchSort();
        tapeAboveSixtyFour();
        tapeSize();
        tapeFirstRefusal();
        imageNone();
        backNone();
        backNothing();
        backCast();
        backUnable();
        backUnableBehindSeveral();
        backIsAbleBehindRefusedCalls();
        tossNone();
        tossNothing();
        tossCast();
        tossThrown();
        playNoSuchTape();
        playNotUpToSixtyFour();
        playNothing();
        playCast();
        playPlace();
        playRunsThoseAhead();
        playEndsAtNone();
        playEndsAtTimeout();
        playFirstRefusal();
        clearNone();
        putNone();
        putNothing();
        putCast();
        putPlace();
        putFirstRefusal();
        atNoSuchTape();
        atNoRow();
        atNoSuchPlace();
        copyNone();
        copyNothing();
        copyCast();
        copyPlaceBelowZero();
        copyPlaceBehindARow();
        copyFirstRefusal();
        countNone();
        countOfTheHosts();
        due.end("RefusedTapesTest");
    }

    // ---- promise 27 ----

    private static void noTape(int want, int d, int sort, int n) {
        twins.refused(Due.call("tape", d, sort, n), Scenes::rich, want, x -> x.tape(d, sort, n));
    }

    private static void aTape(int d, int sort, int n) {
        DriverBook x = Scenes.rich();
        due.is(Due.call("tape", d, sort, n), x.tape(d, sort, n), n);
        due.is("ahead of the first place", Twins.at(x, d, -1), Twins.STATE);
        due.is("the first place", Twins.at(x, d, 0), n == 0 ? Twins.STATE : 0);
        due.is("the last place", Twins.at(x, d, n - 1), n == 0 ? Twins.STATE : 0);
        due.is("behind it", Twins.at(x, d, n), Twins.STATE);
        due.is("what it holds", x.clear(d), sort);
    }

    /** "NONE: no such TAPE": 0 .. 5. */
    private static void tapeNoSuchTape() {
        for (int d : NO_TAPES) {
            noTape(NONE, d, 1, 1);
        }
        for (int d = 0; d < 6; d++) {
            aTape(d, 1, 1);
        }
    }

    /** "NONE: no such .. sort": 1 .. 4. */
    private static void tapeNoSuchSort() {
        for (int sort : new int[] {0, 5, -1, MIN, MAX}) {
            noTape(NONE, 1, sort, 1);
        }
        for (int sort = 1; sort <= 4; sort++) {
            aTape(0, sort, 3);
            aTape(5, sort, 3);
        }
    }

    /** "NONE: .. n above 64". */
    private static void tapeAboveSixtyFour() {
        for (int n : new int[] {65, 66, MAX}) {
            for (int sort = 1; sort <= 4; sort++) {
                noTape(NONE, 1, sort, n);
            }
        }
        for (int sort = 1; sort <= 4; sort++) {
            aTape(1, sort, 64);
            aTape(1, sort, 63);
            aTape(1, sort, 1);
            aTape(1, sort, 0);
        }
    }

    /** "SIZE": "a size below 0". */
    private static void tapeSize() {
        for (int n : new int[] {-1, -64, MIN}) {
            for (int d = 0; d < 6; d++) {
                noTape(SIZE, d, 1 + d % 4, n);
            }
        }
    }

    /** NONE, SIZE. */
    private static void tapeFirstRefusal() {
        noTape(NONE, 6, 1, -1);
        noTape(NONE, -1, 1, -1);
        noTape(NONE, 0, 0, -1);
        noTape(NONE, 0, 5, -1);
        noTape(NONE, 6, 5, MIN);
    }

    // ---- promise 28 ----

    /** "NONE: no such TAPE." */
    private static void imageNone() {
        for (int d : NO_TAPES) {
            twins.refused(Due.call("image", d), Scenes::rich, NONE, x -> x.image(d));
        }
        for (int d = 0; d < 6; d++) {
            DriverBook x = Scenes.rich();
            due.is(Due.call("image", d), x.image(d), 15);
            due.is("what it holds", x.clear(d), 5);
        }
        due.is("NOW 0", new DriverBook().image(0), 0);
    }

    // ---- promise 29 ----

    /** "NONE: no such TAPE". */
    private static void backNone() {
        for (int d : NO_TAPES) {
            twins.refused(Due.call("back", d), Scenes::rich, NONE, x -> x.back(d));
        }
        for (int d = 0; d < 6; d++) {
            int tape = d;
            twins.leaves("back to where it is", () -> {
                DriverBook x = Scenes.rich();
                x.image(tape);
                return x;
            }, 15, x -> x.back(tape));
        }
    }

    /** "NOTHING". */
    private static void backNothing() {
        twins.refused("back(0)", Scenes::rich, NOTHING, x -> x.back(0));
        twins.refused("back of a cleared one", Scenes::clearedImage, NOTHING, x -> x.back(5));
    }

    /** "CAST": a row of any sort, one without places too. */
    private static void backCast() {
        for (int d = 1; d <= 4; d++) {
            int tape = d;
            twins.refused(Due.call("back", d), Scenes::rich, CAST, x -> x.back(tape));
        }
        twins.refused("a row without places", Scenes::emptyRow, CAST, x -> x.back(5));
    }

    /** "UNABLE: since it was made there was a begin(), field(), period() or done() that wasn't refused." */
    private static void backUnable() {
        Twins.Call[] calls = {x -> x.begin(5), x -> x.field(4, 0, 1, Due.PLAIN, 0), x -> x.period(5, 9), x -> x.done(5, 7),
            x -> x.done(10, -1)};
        for (Twins.Call call : calls) {
            Twins.Scene scene = () -> {
                DriverBook x = Scenes.rich();
                call.on(x);
                return x;
            };
            twins.refused("UNABLE", scene, UNABLE, x -> x.back(5));
            DriverBook x = scene.make();
            x.image(5);
            due.is("one that was made since then", x.back(5), 0);
        }
        DriverBook x = Scenes.rich();
        x.image(0);
        x.period(5, 8);
        x.image(1);
        due.is("the older one", x.back(0), UNABLE);
        due.is("the newer one", x.back(1), 0);
        x.period(5, 9);
        due.is("the PERIOD is as it was, yet", x.back(0), UNABLE);
    }

    /** Two or three of these calls, in any order, never make it able again. */
    private static void backUnableBehindSeveral() {
        Twins.Call[] calls = {x -> x.begin(4), x -> x.field(3, 0, 1, Due.PULSE, 0), x -> x.period(0, 5), x -> x.done(0, -1)};
        for (int k = 0; k < 64; k++) {
            DriverBook x = new DriverBook();
            for (int d = 0; d < 4; d++) {
                x.field(0, d, 1, Due.PULSE, 0);
                x.image(d);
            }
            for (int n = 0; n < 3; n++) {
                Twins.Call call = calls[(k >> (2 * n)) % 4];
                if (x.count(1) == 0) {
                    due.is("a FIELD behind begin()", x.field(0, 0, 1, Due.PULSE, 0), 0);
                }
                // a second field() would share the bit of the first one
                due.is("not refused", call.on(x) == -2 ? x.field(3, 1 + n, 1, Due.PULSE, 0) >= 0 ? 1 : 0 : 1, 1);
                for (int d = 0; d < 4; d++) {
                    due.is("IMAGE " + d + " behind calls " + k + ", the first " + (n + 1), x.back(d), UNABLE);
                }
            }
        }
    }

    /** ".. that wasn't refused": what is refused leaves it able; and so do all other calls. */
    private static void backIsAbleBehindRefusedCalls() {
        Twins.Call[] calls = {x -> x.begin(0), x -> x.begin(9), x -> x.field(0, 0, 1, 0, 0), x -> x.field(5, 0, 1, 0, 0),
            x -> x.period(5, 0), x -> x.period(0, 1), x -> x.done(5, 0), x -> x.done(5, 11), x -> x.power(),
            x -> x.law(0, 0, 0, 0), x -> x.act(), x -> x.step(0, Due.PAUSE, -1, 1, 0), x -> x.bare(1),
            x -> x.handler(7, -1), x -> x.locks(1), x -> x.run(1), x -> x.wait(9), x -> x.tape(1, 1, 1)};
        int now = Scenes.rich().back(5);
        for (int k = 0; k < calls.length; k++) {
            DriverBook x = Scenes.rich();
            calls[k].on(x);
            due.is("able behind call " + k, x.back(5), now);
        }
        DriverBook y = Scenes.full();
        y.image(0);
        due.is("FULL", y.field(7, 6, 1, 0, 0), -3);
        due.is("able behind FULL", y.back(0), 2);
    }

    // ---- promise 30 ----

    /** "NONE: no such TAPE". */
    private static void tossNone() {
        for (int d : NO_TAPES) {
            twins.refused(Due.call("toss", d), Scenes::rich, NONE, x -> x.toss(d));
        }
        twins.leaves("its BREAKS", Scenes::rich, 2, x -> x.toss(5));
    }

    /** "NOTHING". */
    private static void tossNothing() {
        twins.refused("toss(0)", Scenes::rich, NOTHING, x -> x.toss(0));
        twins.refused("toss of a cleared one", Scenes::clearedImage, NOTHING, x -> x.toss(5));
    }

    /** "CAST". */
    private static void tossCast() {
        for (int d = 1; d <= 4; d++) {
            int tape = d;
            twins.refused(Due.call("toss", d), Scenes::rich, CAST, x -> x.toss(tape));
        }
        twins.refused("a row without places", Scenes::emptyRow, CAST, x -> x.toss(5));
    }

    /** "THROWN: one without BREAKS has none." It is the IMAGE's BREAKS that count, not those of now. */
    private static void tossThrown() {
        twins.refused("no BREAKS, but there are some now", () -> {
            DriverBook x = Scenes.rich();
            x.power();
            x.image(4);
            x.write(0, 0);
            due.is("a BREAK of now", x.breaks(0), 1);
            return x;
        }, THROWN, x -> x.toss(4));
        twins.refused("a new object's", () -> {
            DriverBook x = new DriverBook();
            x.image(5);
            return x;
        }, THROWN, x -> x.toss(5));
        DriverBook x = Scenes.rich();
        x.power();
        due.is("BREAKS, but there are none now", x.toss(5), 2);
        due.is("none now", x.breaks(0), 0);
    }

    // ---- promise 31 ----

    private static void noPlay(int want, int d, int i, int n) {
        twins.refused(Due.call("play", d, i, n), Scenes::rich, want, x -> x.play(d, i, n));
    }

    /** "NONE: no such TAPE". */
    private static void playNoSuchTape() {
        for (int d : NO_TAPES) {
            noPlay(NONE, d, 0, 1);
            noPlay(NONE, d, 0, 0);
        }
        for (int d = 0; d < 6; d++) {
            DriverBook x = Scenes.rich();
            x.tape(d, 3, 1);
            due.is(Due.call("play", d, 0, 1), x.play(d, 0, 1), 1);
        }
    }

    /** "NONE: .. n is not 0 .. 64". */
    private static void playNotUpToSixtyFour() {
        for (int n : new int[] {-1, 65, MIN, MAX}) {
            noPlay(NONE, 3, 0, n);
        }
        twins.leaves("n 0", Scenes::rich, 0, x -> x.play(3, 0, 0));
        DriverBook x = new DriverBook();
        x.act();
        x.step(0, Due.PAUSE, -1, 2, 0);
        x.tape(0, 3, 64);
        due.is("n 64", x.play(0, 0, 64), 64);
        due.is("all of them RAN", x.count(4), 128);
        due.is("the last place", x.play(0, 63, 1), 1);
        due.is("NOW", x.count(4), 130);
    }

    /** "NOTHING". */
    private static void playNothing() {
        noPlay(NOTHING, 0, 0, 1);
        noPlay(NOTHING, 0, 0, 0);
        noPlay(NOTHING, 0, 0, 64);
    }

    /** "CAST: it is no row of ints". */
    private static void playCast() {
        for (int d : new int[] {1, 2, 4, 5}) {
            noPlay(CAST, d, 0, 1);
            noPlay(CAST, d, 0, 0);
            noPlay(CAST, d, 0, 64);
        }
    }

    /** "PLACE: the row ends ahead of one that is wanted": the row has four. */
    private static void playPlace() {
        for (int i : new int[] {4, 5, 64, MAX, -1, MIN}) {
            noPlay(PLACE, 3, i, 1);
            noPlay(PLACE, 3, i, 64);
        }
        twins.leaves("none is wanted at the end", Scenes::rich, 0, x -> x.play(3, 4, 0));
        twins.refused("a row without places", Scenes::emptyIntRow, PLACE, x -> x.play(5, 0, 1));
        twins.leaves("of which none is wanted", Scenes::emptyIntRow, 0, x -> x.play(5, 0, 0));
    }

    /** "(those ahead of it RAN all the same)". */
    private static void playRunsThoseAhead() {
        DriverBook x = pauses();
        due.is("up to the last", x.play(0, 0, 4), 4);
        due.is("NOW", x.count(4), 8);
        due.is("one behind the last", x.play(0, 0, 5), PLACE);
        due.is("four RAN", x.count(4), 16);
        due.is("from the last on", x.play(0, 3, 2), PLACE);
        due.is("one RAN", x.count(4), 18);
        due.is("two of the host's", x.count(8), 2);
    }

    /** ACT 0 has 2 TICKS, ACT 1 a TIMEOUT behind 1; TAPE 0 is a row of four ints, all 0. */
    private static DriverBook pauses() {
        DriverBook x = new DriverBook();
        x.field(0, 0, 1, Due.STATUS, 0);
        x.act();
        x.act();
        x.step(0, Due.PAUSE, -1, 2, 0);
        x.step(1, Due.AWAIT, 0, 1, 0);
        x.tape(0, 3, 4);
        return x;
    }

    /** "up to the first that is NONE": of ACTS 0 and 1, the numbers -1 and 2 are the first that aren't. */
    private static void playEndsAtNone() {
        for (long act : new long[] {-1, 2, 6, MIN, MAX}) {
            for (int place = 0; place < 4; place++) {
                DriverBook x = pauses();
                x.put(0, place, act);
                due.is("an ACT " + act + " at " + place, x.play(0, 0, 4), place);
                due.is("those ahead of it RAN", x.count(4), 2 * place);
                due.is("the row's end isn't reached", x.play(0, 0, 64), place);
                due.is("no refusal of the host's", x.count(8), 0);
            }
        }
    }

    /** "or a TIMEOUT". */
    private static void playEndsAtTimeout() {
        for (int place = 0; place < 4; place++) {
            DriverBook x = pauses();
            x.put(0, place, 1);
            due.is("a TIMEOUT at " + place, x.play(0, 0, 4), place);
            due.is("what it did stays", x.count(4), 2 * place + 1);
            due.is("the row's end isn't reached", x.play(0, 0, 64), place);
            due.is("no refusal of the host's", x.count(8), 0);
        }
    }

    /** NONE, NOTHING, CAST, PLACE. */
    private static void playFirstRefusal() {
        noPlay(NONE, 6, 9, 1);
        noPlay(NONE, 0, 0, 65);
        noPlay(NONE, 0, 0, -1);
        noPlay(NONE, 1, 0, 65);
        noPlay(NONE, 5, 0, -1);
        noPlay(NONE, 3, 4, 65);
        noPlay(NONE, 3, -1, -1);
        noPlay(NOTHING, 0, 4, 1);
        noPlay(NOTHING, 0, -1, 1);
        noPlay(CAST, 1, 4, 1);
        noPlay(CAST, 5, -1, 1);
    }

    // ---- promise 32 ----

    /** "NONE: no such TAPE." */
    private static void clearNone() {
        for (int d : NO_TAPES) {
            twins.refused(Due.call("clear", d), Scenes::rich, NONE, x -> x.clear(d));
        }
        twins.leaves("nothing was held", Scenes::rich, 0, x -> x.clear(0));
        for (int d = 0; d < 6; d++) {
            DriverBook x = Scenes.rich();
            due.is(Due.call("clear", d), x.clear(d), d);
            due.is("nothing is held", x.put(d, 0, 0), NOTHING);
            due.is("nothing is held", x.clear(d), 0);
            due.is("the next one holds what it held", x.clear((d + 1) % 6), (d + 1) % 6);
        }
    }

    // ---- promise 33 ----

    private static void noPut(int want, int d, int i) {
        twins.refused(Due.call("put", d, i, 77), Scenes::rich, want, x -> x.put(d, i, 77));
    }

    /** "NONE: no such TAPE". */
    private static void putNone() {
        for (int d : NO_TAPES) {
            noPut(NONE, d, 0);
        }
    }

    /** "NOTHING". */
    private static void putNothing() {
        noPut(NOTHING, 0, 0);
        twins.refused("put into a cleared one", Scenes::clearedImage, NOTHING, x -> x.put(5, 0, 1));
    }

    /** "CAST": an IMAGE is no row. */
    private static void putCast() {
        noPut(CAST, 5, 0);
    }

    /** "PLACE": rows of four, of 64, of none. */
    private static void putPlace() {
        for (int d = 1; d <= 4; d++) {
            for (int i : new int[] {-1, 4, 64, MIN, MAX}) {
                noPut(PLACE, d, i);
            }
            for (int i = 0; i < 4; i++) {
                DriverBook x = Scenes.rich();
                due.is(Due.call("put", d, i, 77), x.put(d, i, 77), 1);
                for (int k = 0; k < 4; k++) {
                    due.is("place " + k, x.at(d, k), k == i ? 77 : d == 3 ? k % 2 : 10 * d + k);
                }
            }
        }
        for (int d = 0; d < 6; d++) {
            int tape = d;
            twins.refused("place 64", Scenes::full, PLACE, x -> x.put(tape, 64, 1));
            twins.refused("place -1", Scenes::full, PLACE, x -> x.put(tape, -1, 1));
            due.is("place 63", Scenes.full().put(d, 63, 1), 1);
        }
        twins.refused("a row without places", Scenes::emptyRow, PLACE, x -> x.put(5, 0, 1));
    }

    /** NONE, NOTHING, CAST, PLACE. */
    private static void putFirstRefusal() {
        noPut(NONE, 6, -1);
        noPut(NOTHING, 0, -1);
        noPut(NOTHING, 0, 64);
        noPut(CAST, 5, -1);
        noPut(CAST, 5, 64);
    }

    // ---- promise 34 ----

    private static void at(Twins.Scene scene, long want, int d, int i) {
        twins.leaves(Due.call("at", d, i), scene, want, x -> Twins.at(x, d, i));
    }

    /** "IllegalArgumentException: no such TAPE", also where the place is wrong too. */
    private static void atNoSuchTape() {
        for (int d : NO_TAPES) {
            at(Scenes::rich, Twins.ARGUMENT, d, 0);
            at(Scenes::rich, Twins.ARGUMENT, d, -1);
        }
    }

    /** "IllegalStateException: it holds no row". */
    private static void atNoRow() {
        at(Scenes::rich, Twins.STATE, 0, 0);
        at(Scenes::rich, Twins.STATE, 0, -1);
        at(Scenes::rich, Twins.STATE, 5, 0);
        at(Scenes::rich, Twins.STATE, 5, 64);
        at(Scenes::clearedImage, Twins.STATE, 5, 0);
        DriverBook x = Scenes.rich();
        x.clear(4);
        due.is("a cleared row", Twins.at(x, 4, 0), Twins.STATE);
    }

    /** "IllegalStateException: .. or that has no such place". */
    private static void atNoSuchPlace() {
        for (int d = 1; d <= 4; d++) {
            for (int i : new int[] {-1, 4, 63, 64, MIN, MAX}) {
                at(Scenes::rich, Twins.STATE, d, i);
            }
            at(Scenes::rich, d == 3 ? 0 : 10 * d, d, 0);
            at(Scenes::rich, d == 3 ? 1 : 10 * d + 3, d, 3);
        }
        for (int d = 0; d < 6; d++) {
            at(Scenes::full, d + 1, d, 63);
            at(Scenes::full, 0, d, 0);
            at(Scenes::full, Twins.STATE, d, 64);
        }
        at(Scenes::emptyRow, Twins.STATE, 5, 0);
    }

    // ---- promise 35 ----

    private static void noCopy(Twins.Scene scene, int want, int d, int i, int e, int j, int n) {
        twins.refused(Due.call("copy", d, i, e, j, n), scene, want, x -> x.copy(d, i, e, j, n));
    }

    /** "NONE: no such TAPE." */
    private static void copyNone() {
        for (int d : NO_TAPES) {
            noCopy(Scenes::rich, NONE, d, 0, 1, 0, 1);
            noCopy(Scenes::rich, NONE, 1, 0, d, 0, 1);
            noCopy(Scenes::rich, NONE, d, 0, d, 0, 1);
        }
        due.is("the last tape", Scenes.full().copy(5, 63, 1, 0, 1), 1);
        due.is("the first tape", Scenes.full().copy(4, 63, 0, 0, 1), 1);
    }

    /** "NOTHING: of either". */
    private static void copyNothing() {
        for (int d = 0; d <= 5; d++) {
            noCopy(Scenes::rich, NOTHING, 0, 0, d, 0, 1);
            noCopy(Scenes::rich, NOTHING, d, 0, 0, 0, 1);
            noCopy(Scenes::rich, NOTHING, d, 0, 0, 0, 0);
        }
    }

    /** "CAST: one is no row, or they are of two sorts". */
    private static void copyCast() {
        for (int d = 1; d <= 5; d++) {
            for (int e = 1; e <= 5; e++) {
                if (d != e || d == 5) {
                    noCopy(Scenes::rich, CAST, d, 0, e, 0, 1);
                    noCopy(Scenes::rich, CAST, d, 0, e, 0, 0);
                } else {
                    due.is("one sort", Scenes.rich().copy(d, 0, e, 0, 1), 1);
                }
            }
        }
    }

    /** "PLACE: n, i or j is below 0". */
    private static void copyPlaceBelowZero() {
        for (int wrong : new int[] {-1, MIN}) {
            for (int d = 1; d <= 4; d++) {
                noCopy(Scenes::rich, PLACE, d, wrong, d, 0, 1);
                noCopy(Scenes::rich, PLACE, d, 0, d, wrong, 1);
                noCopy(Scenes::rich, PLACE, d, 0, d, 0, wrong);
                noCopy(Scenes::rich, PLACE, d, wrong, d, 0, 0);
                noCopy(Scenes::rich, PLACE, d, 0, d, wrong, 0);
                noCopy(Scenes::rich, PLACE, d, 1, d, 1, wrong);
            }
        }
        twins.leaves("n 0", Scenes::rich, 0, x -> x.copy(3, 0, 3, 0, 0));
    }

    /** "PLACE: .. or a row has not so many": TAPE 0 has 64 bytes, TAPE 4 is given 10. */
    private static void copyPlaceBehindARow() {
        Twins.Scene scene = () -> {
            DriverBook x = Scenes.full();
            x.tape(4, 1, 10);
            return x;
        };
        int[][] refused = {{0, 0, 11}, {54, 0, 11}, {0, 1, 10}, {0, 10, 1}, {0, 11, 0}, {64, 0, 1}, {65, 0, 0}, {55, 0, 10},
            {MAX, 0, 1}, {0, MAX, 1}, {1, 0, MAX}, {0, 1, MAX}, {MAX, MAX, MAX}, {MAX, 0, 0}, {0, MAX, 0}};
        for (int[] a : refused) {
            noCopy(scene, PLACE, 0, a[0], 4, a[1], a[2]);
            noCopy(scene, PLACE, 4, a[1], 0, a[0], a[2]);
        }
        int[][] allowed = {{0, 0, 10}, {54, 0, 10}, {0, 9, 1}, {63, 0, 1}, {63, 9, 1}, {64, 0, 0}, {0, 10, 0}, {64, 10, 0}};
        for (int[] a : allowed) {
            due.is("to", scene.make().copy(0, a[0], 4, a[1], a[2]), a[2]);
            due.is("from", scene.make().copy(4, a[1], 0, a[0], a[2]), a[2]);
        }
        due.is("all 64", scene.make().copy(0, 0, 0, 0, 64), 64);
        noCopy(scene, PLACE, 0, 0, 0, 0, 65);
        noCopy(scene, PLACE, 0, 1, 0, 0, 64);
        noCopy(scene, PLACE, 0, 0, 0, 1, 64);
        noCopy(Scenes::emptyRow, PLACE, 5, 0, 5, 0, 1);
        twins.leaves("none of a row without places", Scenes::emptyRow, 0, x -> x.copy(5, 0, 5, 0, 0));
    }

    /** NONE, NOTHING, CAST, PLACE. */
    private static void copyFirstRefusal() {
        noCopy(Scenes::rich, NONE, 6, 0, 0, 0, 1);
        noCopy(Scenes::rich, NONE, 0, 0, 6, 0, 1);
        noCopy(Scenes::rich, NONE, 5, 0, 6, 0, 1);
        noCopy(Scenes::rich, NONE, -1, -1, 1, 0, 1);
        noCopy(Scenes::rich, NONE, 1, 0, 6, 0, -1);
        noCopy(Scenes::rich, NOTHING, 0, 0, 5, 0, 1);
        noCopy(Scenes::rich, NOTHING, 5, 0, 0, 0, 1);
        noCopy(Scenes::rich, NOTHING, 0, -1, 1, 0, 1);
        noCopy(Scenes::rich, NOTHING, 1, 0, 0, 0, 65);
        noCopy(Scenes::rich, CAST, 5, -1, 1, 0, 1);
        noCopy(Scenes::rich, CAST, 1, 0, 5, 0, -1);
        noCopy(Scenes::rich, CAST, 1, 0, 2, 4, 1);
        noCopy(Scenes::rich, CAST, 5, 0, 5, 0, 65);
    }

    // ---- promise 36 ----

    /** "NONE for another what." */
    private static void countNone() {
        for (int what : new int[] {-1, 9, MIN, MAX}) {
            twins.refused(Due.call("count", what), Scenes::rich, NONE, x -> x.count(what));
        }
        int[] rich = {5, 11, 3, 4, 15, 1, 4, 0, 1};
        int[] full = {8, 24, 12, 6, 2, 0, 16, 1, 0};
        for (int what = 0; what <= 8; what++) {
            int w = what;
            twins.leaves(Due.call("count", what), Scenes::rich, rich[what], x -> x.count(w));
            twins.leaves(Due.call("count", what), Scenes::full, full[what], x -> x.count(w));
        }
    }

    /** "refusals of the host's (-11 to -15) since begin()": each of them is one more, no other refusal is. */
    private static void countOfTheHosts() {
        DriverBook x = Scenes.rich();
        int told = 1;
        Twins.Call[] hosts = {y -> y.back(0), y -> y.toss(0), y -> y.play(0, 0, 0), y -> y.put(0, 0, 0),
            y -> y.copy(0, 0, 1, 0, 0), y -> y.back(1), y -> y.toss(1), y -> y.play(1, 0, 0), y -> y.put(5, 0, 0),
            y -> y.copy(1, 0, 2, 0, 0), y -> y.put(1, 4, 0), y -> y.play(3, 4, 1), y -> y.copy(1, 0, 1, 0, 5),
            y -> y.tape(0, 1, -1)};
        for (Twins.Call call : hosts) {
            call.on(x);
            told++;
            due.is("one of the host's more", x.count(8), told);
        }
        x.power();
        x.image(0);
        due.is("THROWN", x.toss(0), THROWN);
        told++;
        due.is("one of the host's more", x.count(8), told);
        x.period(5, 1);
        due.is("UNABLE", x.back(0), UNABLE);
        due.is("NONE", x.tape(6, 1, 1), NONE);
        due.is("KIND", x.walk(0, 0), -4);
        due.is("at() throws", Twins.at(x, 9, 0), Twins.ARGUMENT);
        due.is("at() throws", Twins.at(x, 1, 9), Twins.STATE);
        due.is("power() and back() leave it", x.count(8), told);
        due.is("a refused begin()", x.begin(0), NONE);
        due.is("leaves it", x.count(8), told);
        x.begin(4);
        due.is("since begin()", x.count(8), 0);
        x.put(4, 64, 0);
        due.is("the first since begin()", x.count(8), 1);
    }
}
