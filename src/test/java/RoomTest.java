import java.lang.management.ManagementFactory;

/** All calls of a run share one room: an object is small, and its dearest calls make nothing. */
final class RoomTest {
    private static final long MOST_BYTES_OF_AN_OBJECT = 8000;
    private static final long MOST_BYTES_OF_ALL_CALLS = 2000;

    private RoomTest() {
    }

    public static void main(String[] args) {
        com.sun.management.ThreadMXBean room =
            (com.sun.management.ThreadMXBean) ManagementFactory.getThreadMXBean();
        calls(new StairFines());
        long before = room.getCurrentThreadAllocatedBytes();
        StairFines x = new StairFines();
        long made = room.getCurrentThreadAllocatedBytes();
        calls(x);
        long called = room.getCurrentThreadAllocatedBytes();
        Checks.due("an object of " + (made - before) + " bytes is small", made - before <= MOST_BYTES_OF_AN_OBJECT ? 1 : 0, 1);
        Checks.due("calls that make " + (called - made) + " bytes make nothing", called - made <= MOST_BYTES_OF_ALL_CALLS ? 1 : 0, 1);
        Checks.end();
    }

    private static void calls(StairFines x) {
        for (int fine = 0; fine < 9; fine++) {
            x.fine(fine % 6, 40, fine * 4);
        }
        x.let(0, 2);
        x.let(1, 20);
        x.years(7);
        for (int i = 0; i < 20; i++) {
            x.best(3, 100);
            x.kind(2, 100);
            x.needed(100);
            x.bears(200);
            x.pass();
            x.paid(0);
            x.farthest(200);
            x.mend();
            x.meetsFor(39);
            x.feed(0x66726f73, 4);
            x.feed(0x00742037, 3);
            x.court();
            x.sheet(0, 8, 40);
            x.copy(0, 0, 0, 1, 9);
            x.stair(0, 200);
            x.read(0);
            x.lays(0);
            x.image();
            x.undo();
        }
    }
}
