import java.lang.management.ManagementFactory;

/** All calls of a run share one room: an object is small, and its calls make next to nothing. */
public final class RoomTest {
    private static final int CALLS = 512;
    private static final long OBJECT_BYTES = 40_000;
    private static final long CALLS_BYTES = 200_000;

    public static void main(String[] args) {
        run(busyDesk());
        long start = allocated();
        HearingDesk x = busyDesk();
        long made = allocated();
        run(x);
        long end = allocated();
        Due.is("bytes of a desk: " + (made - start), made - start < OBJECT_BYTES, true);
        Due.is("bytes of the calls: " + (end - made), end - made < CALLS_BYTES, true);
        Due.end();
    }

    private static long allocated() {
        return ((com.sun.management.ThreadMXBean) ManagementFactory.getThreadMXBean()).getCurrentThreadAllocatedBytes();
    }

    /** Four long hearings and five who are fit: the most plans there can be. */
    private static HearingDesk busyDesk() {
        HearingDesk x = new HearingDesk();
        for (int p = 0; p < 5; p++) {
            x.person(p);
            x.paper(p, 0, 5, 0, 999);
            x.paper(p, 1, 5, 0, 999);
        }
        for (int h = 0; h < 4; h++) {
            x.hearing(h, 0, 200 * h, 100, h, 1, 1);
        }
        return x;
    }

    private static void run(HearingDesk x) {
        for (int i = 0; i < CALLS; i += 8) {
            x.plan(0, i % 16 == 0);
            x.team(i % 4, i % 10, 0);
            x.journeys(i % 5, 0);
            x.fee(i % 5, 0);
            x.feed(0x66726f6d, 0x20302077, 0x61792037, 0, 0);
            x.end(12);
            x.fees();
            x.ask(i % 4, i % 5, i);
        }
    }
}
