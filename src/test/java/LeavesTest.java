/** What is not refused changes what the document says, and leaves the rest as it was. */
public final class LeavesTest {
    private static final String[] ALL_BUT_TAPES = {"state", "counts", "code", "book", "fields", "ticks", "writes", "runs",
        "walks"};
    private static final String[] STATE_AND_TAPES = {"state", "fields", "tapes", "ticks"};
    private static final String[] BOOK_AND_TAPES = {"counts", "code", "book", "fields", "tapes"};
    private static final Due due = new Due();
    private static final Twins twins = new Twins(due);

    public static void main(String[] args) {
        tellingLeavesTheState();
        steppingLeavesTheBook();
        tapesLeaveTheRest();
        looksLeaveAll();
        samePeriodAndDoneAreAPower();
        aFieldMoreIsAPower();
        beginLeavesTapes();
        due.end("LeavesTest");
    }

    /** law(), act(), step(), bare(), handler() and locks() are no POWER, and no TAPE hangs on them. */
    private static void tellingLeavesTheState() {
        twins.leaves("law", Scenes::rich, 3, x -> x.law(0, 0, 1, 0), STATE_AND_TAPES);
        twins.leaves("act", Scenes::rich, 4, x -> x.act(), STATE_AND_TAPES);
        twins.leaves("act", Scenes::rich, 4, x -> x.act(), "writes");
        twins.leaves("step", Scenes::rich, 1, x -> x.step(2, Due.SET, 0, 1, 0), STATE_AND_TAPES);
        twins.leaves("step", Scenes::rich, 1, x -> x.step(2, Due.SET, 0, 1, 0), "counts", "writes");
        twins.leaves("bare", Scenes::rich, 6, x -> x.bare(1), STATE_AND_TAPES);
        twins.leaves("bare", Scenes::rich, 6, x -> x.bare(1), "counts", "writes");
        twins.leaves("handler", Scenes::rich, 0, x -> x.handler(7, 2), STATE_AND_TAPES);
        twins.leaves("handler", Scenes::rich, 0, x -> x.handler(7, 2), "counts", "writes", "code");
        twins.leaves("locks", Scenes::rich, 0, x -> x.locks(1), STATE_AND_TAPES);
        twins.leaves("locks", Scenes::rich, 0, x -> x.locks(1), "writes");
        twins.leaves("bare of none", Scenes::rich, 0, x -> x.bare(2));
        twins.leaves("the handler that it has", Scenes::rich, 0, x -> x.handler(7, 0));
        twins.leaves("the locks as they are", Scenes::rich, 0, x -> x.locks(0));
    }

    /** What steps the chip leaves FIELDS, LAWS, ACTS, HANDLERS, LOCKS, why() and TAPES. */
    private static void steppingLeavesTheBook() {
        twins.leaves("power", Scenes::rich, 11, x -> x.power(), BOOK_AND_TAPES);
        twins.leaves("event", Scenes::rich, 5, x -> x.event(6, 1, 16), BOOK_AND_TAPES);
        twins.leaves("run", Scenes::rich, 3, x -> x.run(0), BOOK_AND_TAPES);
        twins.leaves("run to a TIMEOUT", Scenes::rich, -5, x -> x.run(3), BOOK_AND_TAPES);
        twins.leaves("read", Scenes::rich, 12, x -> x.read(0), BOOK_AND_TAPES);
        twins.leaves("write", Scenes::rich, 16, x -> x.write(1, 0xffff), BOOK_AND_TAPES);
        twins.leaves("wait", Scenes::rich, 65, x -> x.wait(50), BOOK_AND_TAPES);
        twins.leaves("play", Scenes::rich, 1, x -> x.play(3, 0, 1), BOOK_AND_TAPES);
        int now = Scenes.rich().back(5);
        twins.leaves("back", Scenes::rich, now, x -> x.back(5), BOOK_AND_TAPES);
    }

    /** What changes a TAPE leaves all but that TAPE. */
    private static void tapesLeaveTheRest() {
        twins.leaves("tape", Scenes::rich, 9, x -> x.tape(3, 1, 9), ALL_BUT_TAPES);
        twins.leaves("image", Scenes::rich, 15, x -> x.image(3), ALL_BUT_TAPES);
        twins.leaves("clear", Scenes::rich, 5, x -> x.clear(5), ALL_BUT_TAPES);
        twins.leaves("put", Scenes::rich, 1, x -> x.put(3, 0, 5), ALL_BUT_TAPES);
        twins.leaves("copy", Scenes::rich, 3, x -> x.copy(1, 0, 1, 1, 3), ALL_BUT_TAPES);
        twins.leaves("put of what it is", Scenes::rich, 1, x -> x.put(4, 3, 43));
        twins.leaves("copy onto itself", Scenes::rich, 4, x -> x.copy(4, 0, 4, 0, 4));
    }

    /** What only looks leaves all. */
    private static void looksLeaveAll() {
        twins.leaves("code", Scenes::rich, 9, x -> x.code(1));
        twins.leaves("op", Scenes::rich, 0, x -> x.op(1, 0, 0));
        twins.leaves("same", Scenes::rich, 0, x -> x.same(0, 1));
        twins.leaves("peek", Scenes::rich, 12, x -> x.peek(0, 0));
        twins.leaves("shadow", Scenes::rich, 3, x -> x.shadow(0));
        twins.leaves("result", Scenes::rich, 9, x -> x.result());
        twins.leaves("breaks", Scenes::rich, 2, x -> x.breaks(0));
        twins.leaves("why", Scenes::rich, 3, x -> x.why(0));
        twins.leaves("at", Scenes::rich, 43, x -> x.at(4, 3));
        twins.leaves("toss", Scenes::rich, 2, x -> x.toss(5));
        twins.leaves("count", Scenes::rich, 15, x -> x.count(4));
        twins.leaves("wait(0)", Scenes::rich, 15, x -> x.wait(0));
        twins.leaves("play of none", Scenes::rich, 0, x -> x.play(3, 0, 0));
    }

    /** period() and done() with what it had are a POWER and nothing else; an IMAGE of before is the one thing that knows. */
    private static void samePeriodAndDoneAreAPower() {
        Twins.Scene powered = () -> {
            DriverBook x = Scenes.clearedImage();
            x.power();
            return x;
        };
        twins.leaves("power() again", powered, 11, x -> x.power());
        twins.leaves("period", powered, 9, x -> x.period(5, 9));
        twins.leaves("done", powered, 7, x -> x.done(5, 7));
        for (Twins.Call call : new Twins.Call[] {x -> x.period(5, 9), x -> x.done(5, 7)}) {
            DriverBook x = Scenes.rich();
            call.on(x);
            due.is("NOW", x.count(4), 0);
            due.is("a value", x.peek(0, 0), 3);
            due.is("BREAKS", x.breaks(0), 0);
            due.is("EVENTS", x.count(6), 0);
            due.is("a SOFT", x.peek(2, 3), 0);
            due.is("a TIMER", x.peek(5, 2), 0);
        }
    }

    /** field() is a POWER; LAWS, ACTS, HANDLERS, PERIODS, DONE fields, LOCKS, why() and rows stay. */
    private static void aFieldMoreIsAPower() {
        DriverBook x = Scenes.rich();
        due.is("field", x.field(4, 0, 1, Due.PLAIN, 0), 11);
        int[] counts = {5, 12, 3, 4, 0, 0, 0, 0, 1};
        for (int what = 0; what < 9; what++) {
            due.is("count " + what, x.count(what), counts[what]);
        }
        int[] resets = {3, 0, 1, 7, 0, 0, 0, 0, 1, 2, 0, 0};
        for (int f = 0; f < 12; f++) {
            due.is("value " + f, x.peek(f, 0), resets[f]);
        }
        due.is("PENDING", x.peek(3, 1), 7);
        due.is("a SOFT", x.peek(2, 3), 0);
        due.is("a TIMER", x.peek(5, 2), 0);
        due.is("RESULT", x.result(), 0);
        due.is("BREAKS", x.breaks(0), 0);
        due.is("CODE", x.code(1), 9);
        due.is("HANDLER", x.handler(7, 0), 0);
        due.is("why", x.why(1), 9);
        due.is("a row", x.at(2, 2), 22);
        due.is("DONE", x.done(10, 6), 6);
        due.is("PERIOD", x.period(5, 9), 9);
    }

    /** begin() leaves the TAPES. */
    private static void beginLeavesTapes() {
        DriverBook x = Scenes.rich();
        x.begin(2);
        for (int d = 1; d <= 4; d++) {
            for (int i = 0; i < 4; i++) {
                due.is("tape " + d + ", place " + i, x.at(d, i), d == 3 ? i % 2 : 10 * d + i);
            }
        }
        due.is("the IMAGE is there", x.toss(5), 2);
        due.is("but UNABLE", x.back(5), -7);
        int[] counts = {2, 0, 0, 0, 0, 0, 0, 1, 0};
        for (int what = 0; what < 9; what++) {
            due.is("count " + what, x.count(what), counts[what]);
        }
    }
}
