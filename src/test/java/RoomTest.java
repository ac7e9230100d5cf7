import java.lang.management.ManagementFactory;

/** The room of a run: 600,000 objects, 7.3 million fields and elements; and its dearest calls must end soon. */
public final class RoomTest {
    private static final Due due = new Due();

    public static void main(String[] args) {
        com.sun.management.ThreadMXBean bean = (com.sun.management.ThreadMXBean) ManagementFactory.getThreadMXBean();
        long id = Thread.currentThread().getId();
        run();
        long before = bean.getThreadAllocatedBytes(id);
        run();
        long bytes = bean.getThreadAllocatedBytes(id) - before;
        // an object or array takes 16 bytes or more, so this is far below both limits
        due.is("512 dear calls take less than 1 MiB, not " + bytes, bytes < (1 << 20) ? 1 : 0, 1);
        saturated();
        due.end("RoomTest");
    }

    private static void run() {
        DriverBook x = new DriverBook();
        x.field(0, 0, 2, Due.FLAG, 0);
        x.field(1, 0, 4, Due.PLAIN, 0);
        x.field(1, 4, 4, Due.PLAIN, 0);
        x.law(2, 1, 1, 255);
        x.act();
        x.act();
        x.handler(0, 0);
        x.step(0, Due.SET, 0, 3, 0);
        for (int i = 0; i < 12; i++) {
            x.step(1, Due.SET, 1, i, 0);
        }
        x.tape(0, 3, 64);
        for (int i = 0; i < 64; i++) {
            x.put(0, i, 1);
        }
        for (int k = 0; k < 80; k++) {
            x.walk(1, 0);
            x.play(0, 0, 64);
            x.image(1 + k % 5);
            x.toss(1 + k % 5);
            x.op(1, k % 48, 0);
        }
        due.is("breaks", x.breaks(0) > 0 ? 1 : 0, 1);
    }

    /** A flag that is never cleared, with the longest handler and the longest pauses. */
    private static void saturated() {
        DriverBook x = new DriverBook();
        x.field(0, 0, 2, Due.FLAG, 1);
        x.act();
        x.act();
        x.handler(0, 0);
        for (int i = 0; i < 12; i++) {
            x.step(0, Due.PAUSE, -1, 9, 0);
            x.step(1, Due.PAUSE, -1, 9, 0);
        }
        int one = 108 + 109 * 8 * 108;
        due.is("run", x.run(1), one);
        due.is("served", x.count(5), 109 * 8);
        due.is("walk", x.walk(1, 0), 1);
        x.tape(0, 3, 64);
        for (int i = 0; i < 64; i++) {
            x.put(0, i, 1);
        }
        due.is("play", x.play(0, 0, 64), 64);
        due.is("now", x.count(4), 65 * one);
        due.is("an event above 9999", x.event(0, 1, 65 * one + 1), -1);
        due.is("an event at 9999", x.event(0, 1, 9999), -6);
    }
}
