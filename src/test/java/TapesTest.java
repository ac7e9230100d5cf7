/** Promises 27 to 36: tape, image, back, toss, play, clear, put, at, copy, count. */
public final class TapesTest {
    private static final int MIN = Integer.MIN_VALUE, MAX = Integer.MAX_VALUE;
    private static final Due due = new Due();

    public static void main(String[] args) {
        tape();
        image();
        backRefusals();
        backUnable();
        backRestores();
        toss();
        playRefusals();
        play();
        clear();
        put();
        at();
        copyRefusals();
        copy();
        count();
        constants();
        due.end("TapesTest");
    }

    /** TAPES 0 nothing, 1 .. 4 rows of four elements of that sort, 5 an image. */
    private static DriverBook tapes() {
        DriverBook x = new DriverBook();
        for (int sort = 1; sort <= 4; sort++) {
            x.tape(sort, sort, 4);
        }
        x.image(5);
        return x;
    }

    private static void tape() {
        DriverBook x = new DriverBook();
        int[][] refused = {{-1, 1, 1}, {6, 1, 1}, {MIN, 1, 1}, {MAX, 1, -1}, {0, 0, 1}, {0, 5, 1}, {0, -1, -1}, {0, 1, 65}, {0, 1, MAX}, {6, 1, -1}};
        for (int[] a : refused) {
            due.is("tape(" + a[0] + ", " + a[1] + ", " + a[2] + ")", x.tape(a[0], a[1], a[2]), -1);
        }
        due.is("NONE is none of the host's", x.count(8), 0);
        due.is("tape(0, 1, -1)", x.tape(0, 1, -1), -14);
        due.is("tape(0, 4, MIN)", x.tape(0, 4, MIN), -14);
        due.is("two of the host's", x.count(8), 2);
        due.is("nothing is held", x.clear(0), 0);
        due.is("tape(0, 4, 64)", x.tape(0, 4, 64), 64);
        for (int i = 0; i < 64; i++) {
            x.put(0, i, i + 1);
        }
        due.is("place 63", x.at(0, 63), 64);
        due.is("SIZE leaves it", x.tape(0, 1, -1), -14);
        due.is("place 63", x.at(0, 63), 64);
        due.is("tape(0, 2, 64)", x.tape(0, 2, 64), 64);
        for (int i = 0; i < 64; i++) {
            due.is("all 0", x.at(0, i), 0);
        }
        due.is("tape(5, 1, 0)", x.tape(5, 1, 0), 0);
        due.atThrows("a row without places", x, 5, 0, 2);
        due.is("a row all the same", x.clear(5), 1);
        x.image(1);
        due.is("over an image", x.tape(1, 3, 1), 1);
        due.is("sort 3", x.clear(1), 3);
    }

    private static void image() {
        DriverBook x = new DriverBook();
        due.is("image(6)", x.image(6), -1);
        due.is("image(-1)", x.image(-1), -1);
        x.wait(7);
        due.is("NOW", x.image(0), 7);
        x.tape(1, 1, 1);
        due.is("over a row", x.image(1), 7);
        due.is("an image", x.clear(1), 5);
        x.wait(2);
        due.is("over an image", x.image(0), 9);
        x.wait(1);
        due.is("the new one", x.back(0), 9);
    }

    private static void backRefusals() {
        DriverBook x = tapes();
        due.is("back(6)", x.back(6), -1);
        due.is("back(-1)", x.back(-1), -1);
        due.is("NOTHING", x.back(0), -11);
        for (int sort = 1; sort <= 4; sort++) {
            due.is("CAST", x.back(sort), -12);
        }
        due.is("back(5)", x.back(5), 0);
        due.is("the host's", x.count(8), 5);
    }

    private static void backUnable() {
        DriverBook x = new DriverBook();
        x.field(0, 0, 2, Due.PULSE, 0);
        x.field(0, 2, 2, Due.FLAG, 0);
        x.image(0);
        due.is("refused calls", x.begin(0) + x.field(0, 0, 1, 0, 0) + x.period(1, 1) + x.done(1, 1), -1 - 2 - 4 - 4);
        x.power();
        x.law(0, 0, 0, 0);
        x.act();
        x.step(0, Due.PAUSE, -1, 1, 0);
        x.handler(1, 0);
        x.locks(0);
        x.write(0, 1);
        due.is("none of these", x.back(0), 0);
        x.field(0, 4, 1, 0, 0);
        due.is("field", x.back(0), -7);
        due.is("UNABLE is none of the host's", x.count(8), 0);
        x.image(0);
        due.is("a new one", x.back(0), 0);
        x.period(0, 3);
        due.is("period", x.back(0), -7);
        x.image(0);
        x.done(0, -1);
        due.is("done", x.back(0), -7);
        x.image(0);
        x.begin(4);
        due.is("begin", x.back(0), -7);
        due.is("no tick", x.count(4), 0);
    }

    private static void backRestores() {
        DriverBook x = new DriverBook();
        int[] kinds = {Due.PLAIN, Due.STATUS, Due.FLAG, Due.TAKEN};
        for (int i = 0; i < 4; i++) {
            x.field(0, 4 * i, 2, kinds[i], 1);
        }
        x.field(1, 0, 4, Due.HELD, 2);
        x.field(1, 4, 4, Due.PULSE, 0);
        x.law(2, 0, 0, 50);
        x.law(0, 4, 1, 1);
        x.act();
        x.act();
        x.step(0, Due.SET, 2, 3, 0);
        x.handler(2, 0);
        x.step(1, Due.SET, 0, 2, 0);
        x.step(1, Due.GET, 0, 0, 0);
        x.step(1, Due.SET, 4, 7, 0);
        x.step(1, Due.SET, 5, 9, 0);
        x.event(1, 3, 9);
        x.event(3, 2, 2);
        due.is("ticks", x.run(1), 4);
        int[] before = look(x);
        due.is("image", x.image(3), 4);
        x.event(1, 2, 6);
        x.run(1);
        x.write(0, 0);
        x.write(1, 0);
        x.power();
        due.is("back", x.back(3), 4);
        same("restored", look(x), before);
        x.write(0, 0);
        due.is("hits are restored", x.breaks(0), before[12] + 1);
        x.wait(4);
        due.is("events are restored", x.peek(1, 0), 3);
        due.is("back again", x.back(3), 4);
        same("the image is still whole", look(x), before);
    }

    private static int[] look(DriverBook x) {
        return new int[] {
            x.peek(0, 0), x.peek(1, 0), x.peek(2, 0), x.peek(3, 0), x.peek(4, 0), x.peek(5, 0),
            x.peek(4, 1), x.peek(5, 2), x.peek(3, 3), x.shadow(0), x.shadow(1), x.result(),
            x.breaks(0), x.breaks(1), x.breaks(2), x.count(4), x.count(5), x.count(6),
        };
    }

    private static void same(String what, int[] got, int[] want) {
        for (int i = 0; i < want.length; i++) {
            due.is(what + " " + i, got[i], want[i]);
        }
    }

    private static void toss() {
        DriverBook x = tapes();
        due.is("toss(6)", x.toss(6), -1);
        due.is("toss(-1)", x.toss(-1), -1);
        due.is("NOTHING", x.toss(0), -11);
        for (int sort = 1; sort <= 4; sort++) {
            due.is("CAST", x.toss(sort), -12);
        }
        due.is("THROWN", x.toss(5), -15);
        due.is("the host's", x.count(8), 6);
        x.field(0, 0, 1, Due.PLAIN, 0);
        x.law(0, 0, 0, 0);
        x.write(0, 1);
        x.image(5);
        due.is("one break", x.toss(5), 1);
        x.power();
        x.law(1, 0, 0, 1);
        x.write(0, 1);
        x.image(5);
        x.write(0, 0);
        x.power();
        due.is("its breaks", x.toss(5), 2);
        x.begin(4);
        due.is("also if it is UNABLE", x.toss(5), 2);
        due.is("none of the host's", x.count(8), 0);
        due.is("the state stays", x.breaks(0), 0);
    }

    private static void playRefusals() {
        DriverBook x = tapes();
        due.is("play(6, 0, 0)", x.play(6, 0, 0), -1);
        due.is("play(-1, 0, 0)", x.play(-1, 0, 0), -1);
        due.is("n 65", x.play(3, 0, 65), -1);
        due.is("n -1", x.play(3, 0, -1), -1);
        due.is("NONE ahead of NOTHING", x.play(0, 0, 65), -1);
        due.is("NOTHING", x.play(0, 0, 0), -11);
        due.is("bytes", x.play(1, 0, 0), -12);
        due.is("shorts", x.play(2, 0, 0), -12);
        due.is("longs", x.play(4, 0, 0), -12);
        due.is("image", x.play(5, 0, 0), -12);
        due.is("the host's", x.count(8), 5);
    }

    private static void play() {
        DriverBook x = tapes();
        x.field(0, 0, 4, Due.STATUS, 0);
        x.act();
        x.act();
        x.step(0, Due.PAUSE, -1, 2, 0);
        x.step(1, Due.AWAIT, 0, 1, 0);
        due.is("four acts", x.play(3, 0, 4), 4);
        due.is("now", x.count(4), 8);
        due.is("n 0", x.play(3, 0, 0), 0);
        due.is("n 0 at any place", x.play(3, -5, 0), 0);
        due.is("n 0 behind the row", x.play(3, MAX, 0), 0);
        due.is("no refusals yet", x.count(8), 0);
        due.is("place -1", x.play(3, -1, 2), -13);
        due.is("place MIN", x.play(3, MIN, 64), -13);
        due.is("place 4", x.play(3, 4, 1), -13);
        due.is("place MAX", x.play(3, MAX, 64), -13);
        due.is("now", x.count(4), 8);
        due.is("the row ends", x.play(3, 2, 3), -13);
        due.is("those ahead of it ran", x.count(4), 12);
        due.is("the host's", x.count(8), 5);
        x.put(3, 2, 2);
        due.is("up to one that is none", x.play(3, 0, 64), 2);
        due.is("now", x.count(4), 16);
        x.put(3, 2, -1);
        due.is("an act -1", x.play(3, 2, 1), 0);
        x.put(3, 2, 1);
        due.is("up to a timeout", x.play(3, 1, 3), 1);
        due.is("what it did stays", x.count(4), 19);
        x.event(0, 1, 20);
        x.wait(1);
        due.is("no timeout", x.play(3, 2, 2), 2);
        due.is("now", x.count(4), 23);
    }

    private static void clear() {
        DriverBook x = tapes();
        for (int d = 0; d < 6; d++) {
            due.is("clear(" + d + ")", x.clear(d), d);
            due.is("clear(" + d + ") again", x.clear(d), 0);
        }
        due.is("clear(6)", x.clear(6), -1);
        due.is("clear(-1)", x.clear(-1), -1);
        due.is("put into nothing", x.put(3, 0, 0), -11);
    }

    private static void put() {
        DriverBook x = tapes();
        due.is("put(6, 0, 0)", x.put(6, 0, 0), -1);
        due.is("put(-1, 0, 0)", x.put(-1, 0, 0), -1);
        due.is("NOTHING", x.put(0, 0, 0), -11);
        due.is("NOTHING ahead of PLACE", x.put(0, 9, 0), -11);
        due.is("CAST", x.put(5, 0, 0), -12);
        due.is("CAST ahead of PLACE", x.put(5, -1, 0), -12);
        for (int sort = 1; sort <= 4; sort++) {
            due.is("place 4", x.put(sort, 4, 0), -13);
            due.is("place -1", x.put(sort, -1, 0), -13);
            due.is("place MAX", x.put(sort, MAX, 0), -13);
        }
        due.is("the host's", x.count(8), 16);
        long[] numbers = {0, 1, -1, 127, 128, 255, 256, 32767, 32768, 65535, 2147483647L, 2147483648L,
            4294967295L, Long.MAX_VALUE, Long.MIN_VALUE, 0x123456789abcdef0L};
        for (long v : numbers) {
            for (int sort = 1; sort <= 4; sort++) {
                due.is("put(" + sort + ", 3, " + v + ")", x.put(sort, 3, v), 1);
            }
            due.is("byte of " + v, x.at(1, 3), (byte) v);
            due.is("short of " + v, x.at(2, 3), (short) v);
            due.is("int of " + v, x.at(3, 3), (int) v);
            due.is("long of " + v, x.at(4, 3), v);
        }
        due.is("other places stay", x.at(4, 2), 0);
    }

    private static void at() {
        DriverBook x = tapes();
        due.atThrows("at(6, 0)", x, 6, 0, 1);
        due.atThrows("at(-1, 0)", x, -1, 0, 1);
        due.atThrows("at(MAX, -1)", x, MAX, -1, 1);
        due.atThrows("nothing", x, 0, 0, 2);
        due.atThrows("an image", x, 5, 0, 2);
        due.atThrows("place 4", x, 1, 4, 2);
        due.atThrows("place -1", x, 1, -1, 2);
        due.atThrows("place MIN", x, 4, MIN, 2);
        due.atThrows("place 3", x, 4, 3, 0);
        due.is("none of the host's", x.count(8), 0);
    }

    private static void copyRefusals() {
        DriverBook x = tapes();
        due.is("no such tape", x.copy(6, 0, 1, 0, 1), -1);
        due.is("no such tape", x.copy(1, 0, 6, 0, 1), -1);
        due.is("no such tape", x.copy(-1, 0, 1, 0, 1), -1);
        due.is("NONE ahead of NOTHING", x.copy(0, 0, -1, 0, 1), -1);
        due.is("NOTHING to copy", x.copy(0, 0, 1, 0, 1), -11);
        due.is("NOTHING to copy to", x.copy(1, 0, 0, 0, 1), -11);
        due.is("NOTHING ahead of CAST", x.copy(5, 0, 0, 0, 1), -11);
        due.is("an image", x.copy(5, 0, 1, 0, 1), -12);
        due.is("to an image", x.copy(1, 0, 5, 0, 1), -12);
        due.is("two images", x.copy(5, 0, 5, 0, 0), -12);
        due.is("two sorts", x.copy(1, 0, 2, 0, 1), -12);
        due.is("CAST ahead of PLACE", x.copy(1, -1, 2, 0, 1), -12);
        int[][] places = {{-1, 0, 1}, {0, -1, 1}, {0, 0, -1}, {0, 0, 5}, {1, 0, 4}, {0, 1, 4}, {4, 0, 1}, {5, 0, 0},
            {0, 5, 0}, {MAX, 0, 1}, {0, MAX, MAX}, {MIN, MIN, MIN}, {0, 0, MAX}, {1, 1, MAX}};
        for (int[] a : places) {
            due.is("copy(3, " + a[0] + ", 3, " + a[1] + ", " + a[2] + ")", x.copy(3, a[0], 3, a[1], a[2]), -13);
        }
        due.is("the host's", x.count(8), 8 + places.length);
        due.is("nothing, at the end", x.copy(3, 4, 3, 4, 0), 0);
    }

    private static void copy() {
        for (int sort = 1; sort <= 4; sort++) {
            DriverBook x = new DriverBook();
            x.tape(0, sort, 6);
            x.tape(1, sort, 3);
            for (int i = 0; i < 6; i++) {
                x.put(0, i, i + 1);
            }
            due.is("upwards", x.copy(0, 0, 0, 1, 5), 5);
            row(x, 0, 1, 1, 2, 3, 4, 5);
            due.is("downwards", x.copy(0, 2, 0, 0, 4), 4);
            row(x, 0, 2, 3, 4, 5, 4, 5);
            due.is("to another", x.copy(0, 3, 1, 1, 2), 2);
            row(x, 1, 0, 5, 4);
            due.is("all of it", x.copy(1, 0, 0, 3, 3), 3);
            row(x, 0, 2, 3, 4, 0, 5, 4);
            due.is("too many for the other", x.copy(0, 0, 1, 0, 4), -13);
            row(x, 1, 0, 5, 4);
        }
    }

    private static void row(DriverBook x, int d, int... want) {
        for (int i = 0; i < want.length; i++) {
            due.is("tape " + d + " place " + i, x.at(d, i), want[i]);
        }
    }

    private static void count() {
        DriverBook x = new DriverBook();
        x.begin(7);
        x.field(0, 0, 1, Due.FLAG, 0);
        x.field(0, 1, 1, Due.PLAIN, 0);
        x.law(0, 0, 0, 0);
        x.law(0, 0, 0, 0);
        x.law(0, 0, 0, 0);
        x.act();
        x.act();
        x.act();
        x.act();
        x.handler(0, 0);
        x.step(0, Due.SET, 0, 1, 0);
        x.locks(0);
        x.event(0, 1, 1);
        x.event(0, 1, 70);
        x.event(0, 1, 71);
        x.wait(1);
        x.run(1);
        x.put(0, 0, 0);
        x.back(0);
        x.toss(0);
        x.play(0, 0, 0);
        int[] counts = {7, 2, 3, 4, 3, 1, 2, 0, 4};
        for (int what = 0; what < counts.length; what++) {
            due.is("count(" + what + ")", x.count(what), counts[what]);
        }
        due.is("count(9)", x.count(9), -1);
        due.is("count(-1)", x.count(-1), -1);
        due.is("count(MAX)", x.count(MAX), -1);
    }

    private static void constants() {
        int[] got = {DriverBook.NONE, DriverBook.OVERLAP, DriverBook.FULL, DriverBook.KIND, DriverBook.TIMEOUT,
            DriverBook.LATE, DriverBook.UNABLE};
        for (int i = 0; i < got.length; i++) {
            due.is("constant " + i, got[i], -1 - i);
        }
        int[] host = {DriverBook.NOTHING, DriverBook.CAST, DriverBook.PLACE, DriverBook.SIZE, DriverBook.THROWN};
        for (int i = 0; i < host.length; i++) {
            due.is("host's constant " + i, host[i], -11 - i);
        }
    }
}
