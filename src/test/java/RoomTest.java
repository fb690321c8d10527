import java.lang.management.ManagementFactory;

/** What a run makes stays small: 600,000 objects and 7.3 million elements are all that the room of a run has. */
public final class RoomTest {
    private static final Check CHECK = new Check();
    /** An element or field takes 8 bytes at most, so that a run of these bytes has fewer than a million of them. */
    private static final long MOST_BYTES = 1_000_000;

    public static void main(String[] args) {
        dearestCalls(20);
        long before = bytesMade();
        dearestCalls(440);
        CHECK.due("dearest calls", bytesMade() - before < MOST_BYTES);
        newObjects(10);
        before = bytesMade();
        newObjects(100);
        CHECK.due("a hundred new objects", bytesMade() - before < MOST_BYTES);
        CHECK.finish("RoomTest");
    }

    private static long bytesMade() {
        com.sun.management.ThreadMXBean bean = (com.sun.management.ThreadMXBean) ManagementFactory.getThreadMXBean();
        return bean.getThreadAllocatedBytes(Thread.currentThread().getId());
    }

    /** Calls that make something, or that look at the most ways, on one object. */
    private static void dearestCalls(int calls) {
        SlateRows x = Check.withRoof("w5 12 9;w6 12 9;w7 12 9;w8 12 9;r60;r60;r60;");
        x.keep(0, 1, 5, 9);
        Check.numbers(x, 1, 0, 'l', '3', ';');
        for (int i = 0; i < calls; i++) {
            switch (i % 8) {
                case 0: x.two(0, 2); break;
                case 1: x.by(0, 0, i, 0); break;
                case 2: x.roof(1); break;
                case 3: x.best(0, 1); break;
                case 4: x.keep(2, 1, i % 7, 9); break;
                case 5: x.row(3, 2, 100); break;
                case 6: x.toss(2); break;
                default: x.all(1);
            }
        }
    }

    private static void newObjects(int objects) {
        for (int i = 0; i < objects; i++) {
            new SlateRows().count(0);
        }
    }
}
