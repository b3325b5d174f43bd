import java.lang.management.ManagementFactory;

/** What the dearest runs of 512 calls make must stay far below the room that a run has. */
public final class RoomTest {
    private static final String MANY_STATES = "party;swap 2 1 0;swap 2 2 1;put 2 1;"
        + "party;swap 2 3 0;swap 2 3 1;put 2 2;party;swap 2 0 0;swap 2 0 1;put 2 0;";
    /** 7.3 million numbers of 4 bytes; half of it is taken as the limit. */
    private static final long MOST_BYTES = 7_300_000L * 4 / 2;
    private static final long MOST_OBJECTS = 600_000;
    /** No object of Java's takes less, so that bytes bound the number of objects too. */
    private static final long LEAST_BYTES_OF_AN_OBJECT = 16;

    public static void main(String[] args) {
        spends("new objects", () -> {
            for (int i = 0; i < 512; i++) {
                new StoreBufferHeap().count(0);
            }
        });
        spends("trials", RoomTest::trials);
        spends("worst rows", RoomTest::worstRows);
        spends("images and scripts", RoomTest::imagesAndScripts);
        Check.end();
    }

    private static void spends(String what, Runnable run) {
        run.run();
        com.sun.management.ThreadMXBean threads =
            (com.sun.management.ThreadMXBean) ManagementFactory.getThreadMXBean();
        long before = threads.getCurrentThreadAllocatedBytes();
        run.run();
        long spent = threads.getCurrentThreadAllocatedBytes() - before;
        System.out.println(what + ": " + spent + " bytes");
        Check.isTrue(what + " spend " + spent + " bytes", spent < MOST_BYTES);
        Check.isTrue(what + " make too many objects", spent / LEAST_BYTES_OF_AN_OBJECT < MOST_OBJECTS);
    }

    private static void trials() {
        StoreBufferHeap heap = new StoreBufferHeap();
        for (int i = 0; i < 60; i++) {
            Check.trial(heap, MANY_STATES);
            Check.same("states", heap.states(false), 8673);
            Check.same("outcomes", heap.outcomes(2), heap.outcomes(0) - heap.outcomes(1));
        }
    }

    private static void worstRows() {
        StoreBufferHeap heap = new StoreBufferHeap();
        heap.heap(3, 4, 8, 3);
        Check.script(heap, 1, "new 0;store 0 0 0;go 0;");
        for (int i = 0; i < 250; i++) {
            heap.does(i % 4);
            Check.same("worst", heap.worst(3, 0), 0);
        }
    }

    private static void imagesAndScripts() {
        StoreBufferHeap heap = new StoreBufferHeap();
        for (int i = 0; i < 60; i++) {
            Check.script(heap, 1, "new 0;".repeat(20));
            heap.image(i % 3);
            heap.again(i % 2);
        }
    }
}
