/** Part V of the terms, TAPES, and promises 27 to 35: a test for each sentence that names a bound or an edge. */
public final class TapeTermsTest {
    private static final int MIN = Integer.MIN_VALUE, MAX = Integer.MAX_VALUE;
    private static final Due due = new Due();
    private static final Twins twins = new Twins(due);

    public static void main(String[] args) {
        sixTapesHoldNothingAtFirst();
        tapesStayBehindBegin();
        rowsAreAllZero();
        rowsOfEachSize();
        rowsAreTheirOwn();
        narrowedToBytes();
        narrowedToShorts();
        narrowedToInts();
        longsAsTheyAre();
        copiesAsTheyAllWereBefore();
        copiesOfAllAndOfNone();
        copiesKeepTheirSort();
        imagesHoldTheState();
        imagesHoldEventsHitsBreaksServedNow();
        imagesAreOfThen();
        imagesAreTheirOwn();
        imagesLeaveTheBookAlone();
        tossOfBreaks();
        playsOneAfterTheOther();
        hostsNumbers();
        due.end("TapeTermsTest");
    }

    /** "TAPES 0 .. 5 each hold nothing (at first)". */
    private static void sixTapesHoldNothingAtFirst() {
        for (int d = 0; d < 6; d++) {
            DriverBook x = new DriverBook();
            due.is("put", x.put(d, 0, 1), -11);
            due.is("at", Twins.at(x, d, 0), Twins.STATE);
            due.is("back", x.back(d), -11);
            due.is("toss", x.toss(d), -11);
            due.is("play", x.play(d, 0, 0), -11);
            due.is("copy", x.copy(d, 0, d, 0, 0), -11);
            due.is("clear", x.clear(d), 0);
        }
        DriverBook x = new DriverBook();
        due.is("no tape 6", x.clear(6), -1);
        due.is("no tape -1", x.clear(-1), -1);
    }

    /** Promise 2: "(TAPES stay)". */
    private static void tapesStayBehindBegin() {
        DriverBook x = Scenes.rich();
        x.begin(5);
        due.is("a row", x.at(2, 3), 23);
        due.is("an IMAGE's BREAKS", x.toss(5), 2);
        for (int d = 0; d < 6; d++) {
            due.is("what it holds", x.clear(d), d);
        }
    }

    /** "n elements, all 0": also where another row was. */
    private static void rowsAreAllZero() {
        for (int sort = 1; sort <= 4; sort++) {
            DriverBook x = new DriverBook();
            x.tape(0, 4, 64);
            for (int i = 0; i < 64; i++) {
                x.put(0, i, -1 - i);
            }
            x.tape(0, sort, 64);
            for (int i = 0; i < 64; i++) {
                due.is("place " + i, x.at(0, i), 0);
            }
        }
        DriverBook y = new DriverBook();
        y.tape(0, 4, 64);
        y.put(0, 63, 5);
        y.tape(0, 4, 3);
        y.tape(0, 4, 64);
        due.is("the last place, behind a shorter row", y.at(0, 63), 0);
    }

    /** A row has n places: 0 .. n - 1. */
    private static void rowsOfEachSize() {
        for (int n = 0; n <= 64; n++) {
            DriverBook x = new DriverBook();
            due.is("tape", x.tape(2, 1 + n % 4, n), n);
            for (int i = 0; i < n; i++) {
                due.is("put " + i, x.put(2, i, i + 1), 1);
            }
            due.is("behind the last", x.put(2, n, 1), -13);
            due.is("ahead of the first", x.put(2, -1, 1), -13);
            for (int i = 0; i < n; i++) {
                due.is("at " + i, x.at(2, i), i + 1);
            }
        }
    }

    private static void rowsAreTheirOwn() {
        DriverBook x = new DriverBook();
        for (int d = 0; d < 6; d++) {
            x.tape(d, 4, 2);
        }
        for (int d = 0; d < 6; d++) {
            x.put(d, 0, 10 + d);
            x.put(d, 1, 20 + d);
        }
        for (int d = 0; d < 6; d++) {
            due.is("place 0", x.at(d, 0), 10 + d);
            due.is("place 1", x.at(d, 1), 20 + d);
        }
    }

    private static void narrowed(int sort, long v, long want) {
        DriverBook x = new DriverBook();
        x.tape(0, sort, 2);
        due.is("put", x.put(0, 1, v), 1);
        due.is(v + " in a row of sort " + sort, x.at(0, 1), want);
    }

    /** "becomes v, narrowed to its sort": the largest and the least one, and the first beyond on either side. */
    private static void narrowedToBytes() {
        narrowed(1, 0, 0);
        narrowed(1, 127, 127);
        narrowed(1, 128, -128);
        narrowed(1, -128, -128);
        narrowed(1, -129, 127);
        narrowed(1, 255, -1);
        narrowed(1, 256, 0);
        narrowed(1, 257, 1);
        narrowed(1, Long.MAX_VALUE, -1);
        narrowed(1, Long.MIN_VALUE, 0);
        narrowed(1, 1L << 32, 0);
    }

    private static void narrowedToShorts() {
        narrowed(2, 128, 128);
        narrowed(2, 32767, 32767);
        narrowed(2, 32768, -32768);
        narrowed(2, -32768, -32768);
        narrowed(2, -32769, 32767);
        narrowed(2, 65535, -1);
        narrowed(2, 65536, 0);
        narrowed(2, Long.MAX_VALUE, -1);
        narrowed(2, Long.MIN_VALUE, 0);
    }

    private static void narrowedToInts() {
        narrowed(3, 32768, 32768);
        narrowed(3, MAX, MAX);
        narrowed(3, MAX + 1L, MIN);
        narrowed(3, MIN, MIN);
        narrowed(3, MIN - 1L, MAX);
        narrowed(3, (1L << 32) - 1, -1);
        narrowed(3, 1L << 32, 0);
        narrowed(3, Long.MAX_VALUE, -1);
        narrowed(3, Long.MIN_VALUE, 0);
        DriverBook x = Scenes.rich();
        x.put(3, 0, (1L << 32) + 2);
        due.is("an ACT by its narrowed number", x.play(3, 0, 1), 1);
    }

    private static void longsAsTheyAre() {
        narrowed(4, Long.MAX_VALUE, Long.MAX_VALUE);
        narrowed(4, Long.MIN_VALUE, Long.MIN_VALUE);
        narrowed(4, MAX + 1L, MAX + 1L);
        narrowed(4, MIN - 1L, MIN - 1L);
        narrowed(4, -1, -1);
    }

    /** "(as they all were before)": within one row, up and down, by any distance. */
    private static void copiesAsTheyAllWereBefore() {
        int[][] copies = {{0, 1, 63}, {1, 0, 63}, {0, 32, 32}, {32, 0, 32}, {0, 2, 5}, {2, 0, 5}, {3, 5, 20}, {5, 3, 20},
            {0, 0, 64}, {63, 0, 1}, {0, 63, 1}, {10, 11, 1}};
        for (int sort = 1; sort <= 4; sort++) {
            for (int[] c : copies) {
                DriverBook x = new DriverBook();
                x.tape(1, sort, 64);
                for (int i = 0; i < 64; i++) {
                    x.put(1, i, 100 - i);
                }
                due.is(Due.call("copy", 1, c[0], 1, c[1], c[2]), x.copy(1, c[0], 1, c[1], c[2]), c[2]);
                for (int i = 0; i < 64; i++) {
                    boolean there = i >= c[1] && i < c[1] + c[2];
                    due.is("place " + i, x.at(1, i), 100 - (there ? i - c[1] + c[0] : i));
                }
            }
        }
    }

    /** n up to the whole row, and 0, also at the very end of both. */
    private static void copiesOfAllAndOfNone() {
        DriverBook x = new DriverBook();
        x.tape(0, 2, 64);
        x.tape(1, 2, 64);
        x.put(0, 0, 5);
        x.put(0, 63, 6);
        due.is("none", x.copy(0, 0, 1, 0, 0), 0);
        due.is("none at the end", x.copy(0, 64, 1, 64, 0), 0);
        due.is("nothing went", x.at(1, 0), 0);
        due.is("all", x.copy(0, 0, 1, 0, 64), 64);
        due.is("the first", x.at(1, 0), 5);
        due.is("the last", x.at(1, 63), 6);
        due.is("the row stays", x.at(0, 63), 6);
    }

    private static void copiesKeepTheirSort() {
        for (int sort = 1; sort <= 4; sort++) {
            DriverBook x = new DriverBook();
            x.tape(0, sort, 2);
            x.tape(1, sort, 2);
            x.put(0, 0, 200);
            x.put(0, 1, -40000);
            x.copy(0, 0, 1, 0, 2);
            due.is("place 0", x.at(1, 0), x.at(0, 0));
            due.is("place 1", x.at(1, 1), x.at(0, 1));
            due.is("the sort", x.clear(1), sort);
        }
    }

    /** "or an IMAGE (5): the STATE": all of it comes back, whatever was done between. */
    private static void imagesHoldTheState() {
        Twins.Scene rich = () -> {
            DriverBook x = Scenes.rich();
            x.image(0);
            return x;
        };
        Twins.Call[] between = {x -> x.power(), x -> x.wait(50), x -> x.run(1), x -> x.run(3), x -> x.write(0, 0),
            x -> x.write(1, 0xffff), x -> x.read(0), x -> x.event(6, 1, 16), x -> x.play(3, 0, 4), x -> x.back(5),
            x -> x.write(3, 0xaa), x -> x.write(4, 0xffff)};
        for (int k = 0; k < between.length; k++) {
            Twins.Call call = between[k];
            twins.leaves("back behind call " + k, rich, 15, x -> {
                call.on(x);
                return x.back(0);
            });
        }
        Twins.Scene full = () -> {
            DriverBook x = Scenes.full();
            x.image(0);
            return x;
        };
        twins.leaves("a full one behind 50 TICKS", full, 2, x -> {
            x.wait(50);
            return x.back(0);
        });
        twins.leaves("a full one behind POWER", full, 2, x -> {
            x.power();
            return x.back(0);
        });
        twins.leaves("a full one behind ACTS", full, 2, x -> {
            for (int a = 0; a < 6; a++) {
                x.run(a);
            }
            return x.back(0);
        });
    }

    /** "(with EVENTS, HITS, BREAKS, SERVED, NOW)". */
    private static void imagesHoldEventsHitsBreaksServedNow() {
        DriverBook x = new DriverBook();
        x.field(0, 0, 4, Due.STATUS, 0);
        x.field(1, 0, 1, Due.FLAG, 1);
        x.law(2, 1, 1, 100);
        x.act();
        x.act();
        x.step(0, Due.SET, 1, 1, 0);
        x.handler(1, 0);
        x.run(1);
        x.write(1, 1);
        for (int k = 0; k < 16; k++) {
            x.event(0, k, 5);
        }
        due.is("image", x.image(0), 2);
        x.power();
        due.is("back", x.back(0), 2);
        due.is("NOW", x.count(4), 2);
        due.is("SERVED", x.count(5), 1);
        due.is("EVENTS", x.count(6), 16);
        due.is("BREAKS", x.breaks(0), 1);
        due.is("the first one's LAW", x.breaks(1), 0);
        due.is("the first one's NOW", x.breaks(2), 1);
        x.write(1, 1);
        due.is("HITS", x.breaks(0), 2);
        x.wait(2);
        due.is("the EVENTS in the order told", x.peek(0, 0), 15);
        DriverBook y = new DriverBook();
        y.field(0, 0, 1, Due.FLAG, 0);
        y.law(2, 0, 0, 100);
        y.image(0);
        y.write(0, 1);
        y.back(0);
        y.write(0, 1);
        due.is("no HITS, if there were none", y.breaks(0), 0);
    }

    /** An IMAGE is of the STATE when it was made: nothing that comes later is in it, back() neither. */
    private static void imagesAreOfThen() {
        DriverBook x = Scenes.rich();
        x.image(0);
        x.wait(9);
        due.is("back", x.back(0), 15);
        x.write(0, 1);
        x.run(1);
        due.is("back again", x.back(0), 15);
        due.is("a value of then", x.peek(0, 0), 12);
        due.is("image over it", x.image(0), 15);
        x.wait(1);
        due.is("image over it", x.image(0), 16);
        x.power();
        due.is("the newer one", x.back(0), 16);
    }

    private static void imagesAreTheirOwn() {
        DriverBook x = new DriverBook();
        for (int d = 0; d < 6; d++) {
            due.is("image", x.image(d), d);
            x.wait(1);
        }
        for (int d = 5; d >= 0; d--) {
            due.is("back", x.back(d), d);
            due.is("NOW", x.count(4), d);
        }
    }

    /** The STATE is of chip and driver: LAWS, ACTS, HANDLERS, LOCKS, why() and count(8) are none of it. */
    private static void imagesLeaveTheBookAlone() {
        DriverBook x = Scenes.rich();
        x.image(0);
        x.law(0, 0, 0, 0);
        x.act();
        x.step(2, Due.PAUSE, -1, 3, 0);
        x.handler(7, 2);
        x.locks(1);
        x.put(1, 4, 0);
        x.back(0);
        due.is("LAWS", x.count(2), 4);
        due.is("ACTS", x.count(3), 5);
        due.is("STEPS", x.bare(2), 1);
        due.is("HANDLER", x.handler(7, -1), 2);
        due.is("LOCKS", x.count(7), 1);
        due.is("refusals of the host's", x.count(8), 2);
        due.is("why", x.why(0), 3);
    }

    /** Promise 30: "The failure .. is thrown, and caught: its BREAKS": 1 is the least number of them. */
    private static void tossOfBreaks() {
        for (int laws = 0; laws <= 12; laws++) {
            DriverBook x = new DriverBook();
            x.field(0, 0, 1, Due.PLAIN, 0);
            for (int k = 0; k < laws; k++) {
                x.law(1, 0, 0, 9);
            }
            x.write(0, 1);
            x.image(0);
            due.is("BREAKS of one WRITE", x.toss(0), laws == 0 ? -15 : laws);
            due.is("again", x.toss(0), laws == 0 ? -15 : laws);
            due.is("what it holds", x.clear(0), 5);
        }
    }

    /** Promise 31: "n of them from place i on, RUN one after the other". */
    private static void playsOneAfterTheOther() {
        DriverBook x = new DriverBook();
        x.field(0, 0, 8, Due.PLAIN, 0);
        x.tape(0, 3, 64);
        for (int a = 0; a < 6; a++) {
            x.act();
            x.step(a, Due.SET, 0, a + 1, 0);
        }
        for (int i = 0; i < 64; i++) {
            x.put(0, i, i % 6);
        }
        for (int i = 0; i < 64; i += 9) {
            int now = x.count(4);
            due.is("to the end", x.play(0, i, 64 - i), 64 - i);
            due.is("TICKS", x.count(4), now + 64 - i);
            due.is("the last one's", x.peek(0, 0), 63 % 6 + 1);
            due.is("one", x.play(0, i, 1), 1);
            due.is("its own", x.peek(0, 0), i % 6 + 1);
        }
    }

    /** "NOTHING (-11) .. CAST (-12) .. PLACE (-13) .. SIZE (-14) .. THROWN (-15)", and the others. */
    private static void hostsNumbers() {
        DriverBook x = Scenes.rich();
        due.is("NOTHING", x.put(0, 0, 0), DriverBook.NOTHING);
        due.is("CAST", x.put(5, 0, 0), DriverBook.CAST);
        due.is("PLACE", x.put(1, 4, 0), DriverBook.PLACE);
        due.is("SIZE", x.tape(1, 1, -1), DriverBook.SIZE);
        x.power();
        x.image(5);
        due.is("THROWN", x.toss(5), DriverBook.THROWN);
        x.period(5, 1);
        due.is("UNABLE", x.back(5), DriverBook.UNABLE);
    }
}
