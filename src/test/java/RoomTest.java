import java.lang.management.ManagementFactory;

/** The room that the calls of a run take: a run of the dearest ones makes no objects but those of its wall. */
public final class RoomTest {
    private static final int CALLS = 512;
    private static final long ROOM_OF_WALL = 20_000;

    private final Check check = new Check();

    public static void main(String[] args) {
        RoomTest test = new RoomTest();
        test.room();
        test.check.end();
    }

    private void room() {
        com.sun.management.ThreadMXBean threads =
                (com.sun.management.ThreadMXBean) ManagementFactory.getThreadMXBean();
        long thread = Thread.currentThread().getId();
        dearRun();
        long before = threads.getThreadAllocatedBytes(thread);
        int bricks = dearRun();
        long taken = threads.getThreadAllocatedBytes(thread) - before;
        check.same("bricks", 42, bricks);
        check.same("room of " + taken + " bytes is small", true, taken < ROOM_OF_WALL);
    }

    private static int dearRun() {
        GluedWall wall = new GluedWall();
        wall.kind(1, 1, 1, 1);
        wall.need(1);
        wall.lay(41, 0, 0);
        int bricks = 0;
        for (int call = 3; call + 8 <= CALLS; call += 8) {
            bricks = wall.growsTo();
            wall.stuck();
            wall.grow(42);
            wall.falls(41);
            wall.weakest(41);
            wall.undo();
            wall.save();
            wall.restore();
        }
        return bricks;
    }
}
