/** Promises 16, 24, 25, 28 to 31 and 36 where 512 calls bring BREAKS, or NOW, above what an int holds. */
public final class LongRunTest {
    private static final int MAX = Integer.MAX_VALUE;
    private static final int LATE = -6;
    private static final Due due = new Due();

    public static void main(String[] args) {
        manyBreaks();
        manyTicks();
        due.end("LongRunTest");
    }

    /** A flag that stays up has an act of 12 steps as its handler while act 0 pauses: eight of them at each of 109 looks. */
    private static void tellHandler(DriverBook x, int kind, int field, int v) {
        x.act();
        x.act();
        for (int i = 0; i < 12; i++) {
            x.step(0, Due.PAUSE, -1, 9, 0);
            x.step(1, kind, field, v, 0);
        }
        x.handler(0, 1);
        x.tape(0, 3, 64);
    }

    private static void playWhole(DriverBook x, int times) {
        int whole = 0;
        for (int k = 0; k < times; k++) {
            whole += x.play(0, 0, 64) == 64 ? 1 : 0;
        }
        due.is("plays that ran whole", whole, times);
    }

    private static void manyBreaks() {
        DriverBook x = new DriverBook();
        x.field(0, 0, 1, Due.FLAG, 1);
        x.field(1, 0, 1, Due.LOAD, 0);
        for (int k = 0; k < 12; k++) {
            x.law(1, 1, 0, 0);
        }
        tellHandler(x, Due.SET, 1, 1);
        // a little below the largest int, so that one run more goes above it
        long ofAnAct = 109L * 8 * 12 * 12;
        playWhole(x, 267);
        due.is("play", x.play(0, 0, 14), 14);
        long near = (267 * 64 + 14) * ofAnAct;
        due.is("this is near the largest int", near <= MAX && near + ofAnAct > MAX ? 1 : 0, 1);
        due.is("breaks that an int holds", x.breaks(0), near);
        due.is("walk across the largest int", x.walk(0, 0), 1);
        due.is("its rule", x.why(0), 2);
        due.is("breaks behind the walk", x.breaks(0), near);
        due.is("image", x.image(1), x.count(4));
        due.is("toss", x.toss(1), near);

        due.is("run", x.run(0), 108 + 109 * 8 * 12);
        firstOfMany(x);
        due.is("walk above the largest int", x.walk(0, 0), 1);
        due.is("its rule", x.why(0), 2);
        x.image(2);
        due.is("toss of many", x.toss(2), MAX);
        due.is("no refusal", x.count(8), 0);
        x.power();
        due.is("no breaks", x.breaks(0), 0);
        due.is("no first one", x.breaks(1), -1);
        x.image(3);
        due.is("toss of none", x.toss(3), -15);
        due.is("a refusal", x.count(8), 1);
        x.back(2);
        firstOfMany(x);
        x.back(1);
        due.is("breaks of the first image", x.breaks(0), near);
    }

    private static void firstOfMany(DriverBook x) {
        due.is("breaks above the largest int", x.breaks(0), MAX);
        due.is("the first one's law", x.breaks(1), 0);
        due.is("the first one's now", x.breaks(2), 0);
    }

    private static void manyTicks() {
        DriverBook x = new DriverBook();
        x.field(0, 0, 1, Due.FLAG, 1);
        x.field(0, 1, 1, Due.FLAG, 0);
        x.field(1, 0, 1, Due.LOAD, 0);
        x.law(2, 2, 2, 255);
        tellHandler(x, Due.PAUSE, -1, 9);
        long ofAnAct = 108 + 109L * 8 * 108;
        due.is("write", x.write(1, 1), 1);
        playWhole(x, 355);
        due.is("now that an int holds", x.count(4), 1 + 355 * 64 * ofAnAct);
        playWhole(x, 1);
        due.is("ticks above the largest int", 1 + 356 * 64 * ofAnAct > MAX ? 1 : 0, 1);

        due.is("now", x.count(4), MAX);
        due.is("image", x.image(1), MAX);
        due.is("wait", x.wait(0), MAX);
        due.is("an event of the past", x.event(1, 1, 9999), LATE);
        due.is("an event of tick 1", x.event(1, 1, 1), LATE);
        due.is("run", x.run(0), ofAnAct);
        due.is("a hit of long ago", x.write(1, 1), MAX);
        due.is("breaks nothing", x.breaks(0), 0);
        due.is("a hit of just now", x.write(1, 1), MAX);
        due.is("breaks", x.breaks(0), 1);
        due.is("the first one's now", x.breaks(2), MAX);
        walkLate(x);
        due.is("back", x.back(1), MAX);
        due.is("no breaks in the image", x.breaks(0), 0);
        due.is("power", x.power(), 3);
        due.is("now behind power", x.count(4), 0);
        due.is("an event to come", x.event(1, 1, 9999), 1);
    }

    /** Acts that know nothing of what was before: a pause, and a handler that clears its flag. */
    private static void walkLate(DriverBook x) {
        x.handler(0, -1);
        x.bare(0);
        x.step(0, Due.PAUSE, -1, 3, 0);
        x.bare(1);
        x.step(1, Due.SET, 1, 1, 0);
        x.handler(1, 1);
        due.is("a walk above the largest int is well", x.walk(0, 1), 0);
        x.bare(1);
        x.step(1, Due.PAUSE, -1, 1, 0);
        due.is("a flag that isn't cleared", x.walk(0, 1), 1);
        due.is("its rule", x.why(0), 4);
    }
}
