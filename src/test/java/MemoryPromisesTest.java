/** Promises 11 to 16: root, cell, reads, waits, write, work. */
public final class MemoryPromisesTest {
    private static final int[] FAR = {-1, 99, Integer.MAX_VALUE, Integer.MIN_VALUE};

    public static void main(String[] args) {
        roots();
        cellsAndWhatThreadsRead();
        youngestWriteIsRead();
        fullBuffersBlock();
        collectorsWrites();
        freshObjectsAreClean();
        workOfThreads();
        Check.end();
    }

    private static void roots() {
        StoreBufferHeap heap = new StoreBufferHeap();
        heap.heap(2, 1, 3, 1);
        Check.script(heap, 2, "new 3;new 1;copy 0 1;drop 1;");
        Check.run(heap, "2222");
        Check.same("slot of 3", heap.root(2, 3, false), 0);
        Check.same("slot of 0", heap.root(2, 0, false), 1);
        Check.same("serial of 0", heap.root(2, 0, true), 1);
        Check.same("dropped", heap.root(2, 1, true), -2);
        Check.same("never used", heap.root(2, 2, false), -2);
        Check.same("of another", heap.root(1, 0, false), -2);
        for (int far : FAR) {
            Check.same("root of " + far, heap.root(far, 0, false), -1);
            Check.same("register " + far, heap.root(2, far, true), -1);
        }
        Check.same("the collector has none", heap.root(0, 0, false), -1);
        Check.same("mutator 3", heap.root(3, 0, false), -1);
        Check.same("register 4", heap.root(2, 4, false), -1);
    }

    private static void cellsAndWhatThreadsRead() {
        StoreBufferHeap heap = new StoreBufferHeap();
        heap.heap(2, 2, 3, 2);
        Check.script(heap, 1, "new 0;new 1;new 2;store 2 1 1;store 0 0 2;");
        Check.same("setup", Check.run(heap, "111111b111b"), 11);
        Check.same("slot", heap.cell(1, 2, 1), 1);
        Check.same("serial", heap.cell(2, 2, 1), 1);
        Check.same("NIL's slot", heap.cell(1, 2, 0), -2);
        Check.same("NIL's serial", heap.cell(2, 2, 0), -2);
        Check.same("flag", heap.cell(0, 2, 0), 0);
        Check.same("flag whatever field", heap.cell(0, 2, 77), 0);
        for (int sort = 0; sort < 6; sort++) {
            for (int far : FAR) {
                int due = sort < 3 ? -1 : 0;
                Check.same("cell " + sort, heap.cell(sort, far, 0), due);
                Check.same("reads " + sort, heap.reads(1, sort, far, 0), due);
                Check.same("reads of " + far, heap.reads(far, sort, 0, 0), -1);
                int ofField = sort == 1 || sort == 2 ? -1 : 0;
                Check.same("field " + far, heap.cell(sort, 0, far), ofField);
                Check.same("field " + far, heap.reads(2, sort, 0, far), ofField);
            }
        }
        for (int sort : new int[] {-1, 6, Integer.MAX_VALUE, Integer.MIN_VALUE}) {
            Check.same("cell of sort " + sort, heap.cell(sort, 0, 0), -1);
            Check.same("reads of sort " + sort, heap.reads(0, sort, 0, 0), -1);
        }
        Check.same("slot 3", heap.cell(1, 3, 0), -1);
        Check.same("field 2", heap.cell(1, 0, 2), -1);
        Check.same("thread 3", heap.reads(3, 3, 0, 0), -1);
        Check.same("of another slot", heap.cell(1, 0, 0), 2);
    }

    private static void youngestWriteIsRead() {
        StoreBufferHeap heap = new StoreBufferHeap();
        heap.heap(2, 4, 3, 1);
        Check.script(heap, 1, "new 0;new 1;store 0 0 0;store 0 0 1;store 1 0 0;load 2 0 0;store 0 0 3;");
        heap.leave(3);
        Check.same("three stores, a load", Check.run(heap, "111111111"), 9);
        Check.same("three wait", heap.waits(1), 3);
        Check.same("loaded the youngest", heap.root(1, 2, false), 1);
        Check.same("reads the youngest", heap.reads(1, 2, 0, 0), 1);
        Check.same("another reads memory", heap.reads(2, 1, 0, 0), -2);
        Check.same("the collector reads memory", heap.reads(0, 1, 0, 0), -2);
        int[][] writes = {{1, 0, 0, 0}, {1, 0, 0, 1}, {1, 1, 0, 0}};
        for (int k = 0; k < 3; k++) {
            for (int what = 0; what < 4; what++) {
                Check.same("write " + k + " " + what, heap.write(1, k, what), writes[k][what]);
            }
            Check.same("write what 4", heap.write(1, k, 4), -1);
            Check.same("write what -1", heap.write(1, k, -1), -1);
        }
        Check.same("store NIL", Check.run(heap, "11"), 2);
        Check.same("NIL", heap.write(1, 3, 3), -2);
        Check.same("NIL is read", heap.reads(1, 1, 0, 0), -2);
        for (int far : FAR) {
            Check.same("write of " + far, heap.write(far, 0, 0), -1);
            Check.same("write " + far, heap.write(1, far, 0), -1);
            Check.same("waits of " + far, heap.waits(far), -1);
        }
        Check.same("write 4", heap.write(1, 4, 0), -1);
        Check.same("waits(3)", heap.waits(3), -1);
        heap.does(9);
        Check.same("the oldest is done", heap.cell(1, 0, 0), 0);
        Check.same("three wait", heap.waits(1), 3);
        Check.same("the next is the oldest", heap.write(1, 0, 3), 1);
        Check.same("the rest", Check.run(heap, "bbbb"), 3);
        Check.same("the youngest was last", heap.cell(1, 0, 0), -2);
        Check.same("all done", heap.cell(1, 1, 0), 0);
    }

    private static void fullBuffersBlock() {
        for (int size = 1; size <= 4; size++) {
            StoreBufferHeap heap = new StoreBufferHeap();
            heap.heap(1, size, 1, 1);
            Check.script(heap, 1, "new 0;store 0 0 1;go 1;");
            Check.run(heap, "1".repeat(40));
            Check.same("full", heap.waits(1), size);
            Check.same("blocked", heap.about(1, 3), 1);
            Check.same("in the store", heap.about(1, 1), 0);
            heap.does(9);
            Check.same("no more", heap.about(1, 3), 0);
        }
    }

    private static void collectorsWrites() {
        StoreBufferHeap heap = new StoreBufferHeap();
        heap.heap(1, 2, 2, 1);
        Check.run(heap, "0100");
        int[] mark = {4, 0, 0, 1};
        for (int what = 0; what < 4; what++) {
            Check.same("write of MARK " + what, heap.write(0, 0, what), mark[what]);
        }
        Check.same("it reads what it wrote", heap.reads(0, 4, 0, 0), 1);
        Check.same("a mutator does not", heap.reads(1, 4, 0, 0), 0);
        Check.same("on", Check.run(heap, "a0100a01000"), 11);
        int[][] writes = {{3, 0, 0, 2}, {5, 0, 0, 1}};
        for (int k = 0; k < 2; k++) {
            for (int what = 0; what < 4; what++) {
                Check.same("write " + k + " " + what, heap.write(0, k, what), writes[k][what]);
            }
        }
        Check.same("COLOUR waits", heap.reads(0, 5, 0, 0), 1);
        Check.same("COLOUR waits", heap.cell(5, 0, 0), 0);
        Check.same("PHASE waits", heap.reads(0, 3, 0, 0), 2);
        Check.same("PHASE waits", heap.cell(3, 0, 0), 1);
    }

    /** A SLOT that is made anew is NIL in MEMORY and has COLOUR, at once. */
    private static void freshObjectsAreClean() {
        StoreBufferHeap heap = new StoreBufferHeap();
        heap.heap(1, 1, 2, 2);
        Check.script(heap, 1, "new 0;store 0 1 0;drop 0;");
        heap.fair(60);
        Check.same("freed", heap.count(5), 1);
        Check.same("the field stays", heap.cell(1, 0, 1), 0);
        Check.same("serial of the last one", heap.serial(0), 0);
        int flag = heap.cell(0, 0, 0);
        for (int i = 0; i < 40 && heap.cell(5, 0, 0) == flag; i++) {
            heap.fair(1);
        }
        Check.same("COLOUR is the other one", heap.cell(5, 0, 0), 1 - flag);
        Check.script(heap, 1, "new 3;");
        heap.fair(4);
        Check.same("made", heap.root(1, 3, true), 1);
        Check.same("the least free slot", heap.root(1, 3, false), 0);
        Check.same("field is NIL", heap.cell(1, 0, 1), -2);
        Check.same("flag is COLOUR", heap.cell(0, 0, 0), 1 - flag);
        Check.same("serial", heap.serial(0), 1);
    }

    private static void workOfThreads() {
        StoreBufferHeap heap = new StoreBufferHeap();
        heap.heap(1, 1, 8, 1);
        Check.script(heap, 1, "new 0;new 1;new 2;new 3;");
        Check.run(heap, "1111");
        Check.same("up to init", Check.run(heap, "0100a0100a"), 10);
        Check.script(heap, 1, "store 0 0 3;store 0 0 1;");
        Check.same("marks what comes in", Check.run(heap, "11111b"), 6);
        Check.same("work", heap.work(1), 8);
        Check.same("alike now: what goes out; comes in", Check.run(heap, "111111b"), 7);
        Check.same("work", heap.work(1), 10);
        Check.same("grey", heap.colour(3), 2);
        Check.same("the collector's", heap.work(0), 0);
        for (int far : FAR) {
            Check.same("work of " + far, heap.work(far), -1);
        }
        Check.same("work(2)", heap.work(2), -1);
    }
}
