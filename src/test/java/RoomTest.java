import com.sun.management.ThreadMXBean;
import java.lang.management.ManagementFactory;

/**
 * Runs of calls that make as much as they can: all that a run makes must find room in some 600,000
 * objects and 7.3 million fields and elements. Bytes stand in for both: an object is at least 16 of
 * them and an element 4, so that a run under the limit here is far under both.
 */
public final class RoomTest {
    private static final int CALLS = 512;
    private static final long MOST_BYTES = 9_000_000;

    private static final Check CHECK = new Check();
    private static final ThreadMXBean THREADS = (ThreadMXBean) ManagementFactory.getThreadMXBean();

    private static void within(String name, Runnable run) {
        run.run(); // The first run also loads classes.
        long before = THREADS.getThreadAllocatedBytes(Thread.currentThread().getId());
        run.run();
        long bytes = THREADS.getThreadAllocatedBytes(Thread.currentThread().getId()) - before;
        if (bytes > MOST_BYTES) {
            CHECK.fault(name + " made " + bytes + " bytes, at most " + MOST_BYTES + " are due");
        }
    }

    private static OutlineDesk flat(int size) {
        OutlineDesk desk = new OutlineDesk();
        for (int i = 0; i < size; i++) {
            desk.insert(OutlineDesk.ROOT, 0, i % 2 == 0 ? i : 1000 - i);
        }
        return desk;
    }

    private static void onlyNewObjects() {
        for (int i = 0; i < CALLS; i++) {
            new OutlineDesk();
        }
    }

    private static void newObjectsInUse() {
        for (int i = 0; i < CALLS / 2; i++) {
            new OutlineDesk().insert(OutlineDesk.ROOT, 0, 0);
        }
    }

    private static void fullThenMoves() {
        OutlineDesk desk = flat(400);
        for (int i = 400; i < CALLS; i++) {
            desk.move(i % 400, OutlineDesk.ROOT, i % 2 == 0 ? 0 : 399);
        }
    }

    private static void sorts(boolean grouped) {
        OutlineDesk desk = flat(200);
        for (int i = 0; i < 56; i++) {
            desk.minutes(i * 3, 0, i);
        }
        if (grouped) {
            desk.open();
        }
        for (int i = 257; i < CALLS; i++) {
            desk.sort(OutlineDesk.ROOT, i % 2 == 0 ? 0 : 4);
        }
    }

    private static void undoAndRedo() {
        OutlineDesk desk = flat(300);
        for (int i = 300; i < CALLS; i += 2) {
            desk.undo();
            desk.redo();
        }
    }

    private static void finding() {
        OutlineDesk desk = flat(150);
        for (int i = 0; i < 150; i++) {
            desk.date(i, i % 2, 1000 - i, 0, 0, 0);
        }
        for (int i = 300; i < CALLS; i += 2) {
            desk.agenda(0, 5000);
            desk.match(0, 0, 31, 0);
        }
    }

    private static void farMoves() {
        OutlineDesk desk = new OutlineDesk();
        desk.insert(OutlineDesk.ROOT, 0, 0);
        desk.today(3650000);
        for (int i = 2; i < CALLS; i += 2) {
            desk.date(0, 0, 30, 2, 2, 2);
            desk.state(0, 3);
        }
    }

    /** What calls behind the 512th answer is free, but none may throw by itself or make ever more. */
    private static void farTooManyCalls() {
        OutlineDesk desk = flat(400);
        desk.open();
        for (int i = 0; i < 20000; i++) {
            desk.sort(OutlineDesk.ROOT, 0);
            desk.title(i % 400, i * 7919 % 1000000);
        }
        desk.close();
        for (int i = 0; i < 20000; i++) {
            desk.move(i % 400, OutlineDesk.ROOT, i % 2 == 0 ? 0 : 399);
        }
    }

    public static void main(String[] args) {
        within("512 new objects", RoomTest::onlyNewObjects);
        within("256 new objects in use", RoomTest::newObjectsInUse);
        within("400 entries and moves", RoomTest::fullThenMoves);
        within("sorts", () -> sorts(false));
        within("sorts in a group", () -> sorts(true));
        within("undo and redo", RoomTest::undoAndRedo);
        within("agenda and match", RoomTest::finding);
        within("far moves", RoomTest::farMoves);
        within("far too many calls", RoomTest::farTooManyCalls);
        CHECK.end("RoomTest");
    }
}
