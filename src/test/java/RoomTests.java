import java.lang.management.ManagementFactory;

/**
 * All that the calls of a run make stays in one room of 7.3 million elements and 600,000 objects. An element has at least
 * a byte and an object at least twelve, so a run that takes less than 7 million bytes fits.
 */
public final class RoomTests {
    private static final long ROOM = 7_000_000L;
    private static final int CALLS = 512;
    private static final Checks CHECKS = new Checks("RoomTests");

    private interface Run {
        void on(MirrorKeep x, int call);
    }

    public static void main(String[] args) {
        fits("writes of nothing into a long file", RoomTests::writeNothing);
        fits("writes of twenty bytes", RoomTests::writeTwenty);
        fits("sessions and prunes", RoomTests::sessions);
        fits("restores", (x, call) -> x.restore(0));
        fits("differs", (x, call) -> x.differ());
        fits("looks", RoomTests::look);
        CHECKS.end();
    }

    private static long taken() {
        return ((com.sun.management.ThreadMXBean) ManagementFactory.getThreadMXBean()).getCurrentThreadAllocatedBytes();
    }

    private static MirrorKeep full() {
        Keep k = new Keep();
        k.make("f", Keep.FILE);
        for (int at = 0; at < 1500; at += 300) {
            k.write(at, "x".repeat(300));
        }
        for (int i = 1; i < 60; i++) {
            k.make("e" + i, Keep.FILE);
        }
        k.session(0);
        k.choose("f");
        return k.x();
    }

    /** More calls of one object than are promised, but the dearest ones alone: a promised run takes less. */
    private static void fits(String what, Run run) {
        MirrorKeep x = full();
        long before = taken();
        for (int call = 0; call < CALLS; call++) {
            run.on(x, call);
        }
        long took = taken() - before;
        System.out.println("RoomTests: " + what + ": " + took + " bytes");
        CHECKS.due(what + " fit: " + took, took < ROOM ? 1 : 0, 1);
    }

    private static void writeNothing(MirrorKeep x, int call) {
        x.write(0);
    }

    private static void writeTwenty(MirrorKeep x, int call) {
        if (call % 2 == 0) {
            x.end(20);
        } else {
            x.write(call);
        }
    }

    private static void sessions(MirrorKeep x, int call) {
        switch (call % 4) {
            case 0: x.set(call, call); break;
            case 1: x.begin(call); break;
            case 2: x.step(200); break;
            default: x.prune(call); break;
        }
    }

    private static void look(MirrorKeep x, int call) {
        x.entry(call % 3, call % 60, call % 5);
        x.at(call % 3, call % 60, true, 0);
        x.about(call % 9);
        x.session(0, call % 2);
    }
}
