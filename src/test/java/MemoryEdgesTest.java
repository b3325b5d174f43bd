/** Boundary sentences of promises 11 to 16: root, cell, reads, waits, write, work. */
public final class MemoryEdgesTest {
    private static final int[] FAR = {Integer.MIN_VALUE, -2, -1, 99, Integer.MAX_VALUE};

    public static void main(String[] args) {
        rootsOfWhom();
        rootsOfRegisters();
        rootsAreNil();
        cellsOfSorts();
        cellsOfSlots();
        cellsOfFields();
        cellsWhateverSlotAndField();
        cellsAreNil();
        flagsOfCells();
        readsOfWhom();
        readsAsCells();
        readsWhatWaits();
        waitsOfWhom();
        waitsUpToFull();
        writesOfWhom();
        writesByNumber();
        writesWhat();
        writesTellTheSlot();
        writesOfTheCollector();
        writesMoveUp();
        workOfWhom();
        workInBits();
        Check.end();
    }

    private static void rootsOfWhom() {
        Check.sentence("11: NONE: there is none such (MUTATOR)");
        for (int mutators = 1; mutators <= 3; mutators++) {
            StoreBufferHeap heap = new StoreBufferHeap();
            heap.heap(mutators, 1, 1, 1);
            for (int m = -1; m <= 5; m++) {
                int due = m >= 1 && m <= mutators ? -2 : -1;
                Check.same("root(" + m + ", 0, false)", heap.root(m, 0, false), due);
                Check.same("root(" + m + ", 3, true)", heap.root(m, 3, true), due);
            }
            for (int far : FAR) {
                Check.same("root(" + far + ", 0, true)", heap.root(far, 0, true), -1);
            }
        }
    }

    private static void rootsOfRegisters() {
        Check.sentence("Term 2: REGISTERS 0 .. 3; 11: NONE: there is none such (REGISTER)");
        StoreBufferHeap heap = new StoreBufferHeap();
        heap.heap(1, 1, 8, 1);
        Check.script(heap, 1, "new 3;new 2;new 1;new 0;");
        Check.run(heap, "1111");
        for (int r = 0; r <= 3; r++) {
            Check.same("SLOT in " + r, heap.root(1, r, false), 3 - r);
            Check.same("SERIAL in " + r, heap.root(1, r, true), 3 - r);
        }
        for (int serial = 0; serial <= 1; serial++) {
            for (int r : new int[] {-1, 4, 5, 8}) {
                Check.same("root(1, " + r + ")", heap.root(1, r, serial == 1), -1);
            }
            for (int far : FAR) {
                Check.same("root(1, " + far + ")", heap.root(1, far, serial == 1), -1);
            }
        }
        Check.same("neither", heap.root(0, 4, false), -1);
    }

    private static void rootsAreNil() {
        Check.sentence("11: The SLOT, or (serial) the SERIAL, in a REGISTER. -2: NIL");
        StoreBufferHeap heap = new StoreBufferHeap();
        heap.heap(1, 1, 2, 1);
        Check.script(heap, 1, "new 0;drop 0;new 0;");
        Check.same("at first", heap.root(1, 0, false), -2);
        Check.same("at first", heap.root(1, 0, true), -2);
        heap.does(1);
        Check.same("SLOT 0", heap.root(1, 0, false), 0);
        Check.same("SERIAL 0", heap.root(1, 0, true), 0);
        heap.does(1);
        Check.same("dropped", heap.root(1, 0, false), -2);
        Check.same("dropped", heap.root(1, 0, true), -2);
        heap.fair(40);
        Check.same("SLOT 1", heap.root(1, 0, false), 1);
        Check.same("SERIAL 1", heap.root(1, 0, true), 1);
        Check.same("SLOT 0 is free", heap.colour(0), 0);
        answer(heap);
        Check.same("a new SCRIPT", Check.script(heap, 1, "new 1;"), 1);
        Check.isTrue("new", heap.does(1));
        Check.same("another SLOT", heap.root(1, 1, false), 0);
        Check.same("than SERIAL", heap.root(1, 1, true), 2);
    }

    /** Ends what is asked of MUTATOR 1, so that LINES come next. */
    private static void answer(StoreBufferHeap heap) {
        while (heap.about(1, 2) == 1 && heap.does(1)) {
            heap.waits(1);
        }
        Check.same("nothing is asked", heap.about(1, 2), 0);
    }

    private static void cellsOfSorts() {
        Check.sentence("12: sort 0 .. 5; NONE: there is none such");
        StoreBufferHeap heap = new StoreBufferHeap();
        int[] due = {0, -2, -2, 0, 0, 0};
        for (int sort = 0; sort <= 5; sort++) {
            Check.same("cell of sort " + sort, heap.cell(sort, 0, 0), due[sort]);
            Check.same("reads of sort " + sort, heap.reads(0, sort, 0, 0), due[sort]);
        }
        for (int sort : new int[] {-1, 6, 7, 8, Integer.MIN_VALUE, Integer.MAX_VALUE}) {
            Check.same("cell of sort " + sort, heap.cell(sort, 0, 0), -1);
            Check.same("reads of sort " + sort, heap.reads(0, sort, 0, 0), -1);
        }
    }

    private static void cellsOfSlots() {
        Check.sentence("12: NONE: there is none such (SLOT 0 .. S - 1)");
        for (int slots = 1; slots <= 8; slots++) {
            StoreBufferHeap heap = new StoreBufferHeap();
            heap.heap(1, 1, slots, 1);
            for (int slot = -1; slot <= 9; slot++) {
                boolean there = slot >= 0 && slot < slots;
                Check.same("FLAG of " + slot, heap.cell(0, slot, 0), there ? 0 : -1);
                Check.same("SLOT of " + slot, heap.cell(1, slot, 0), there ? -2 : -1);
                Check.same("SERIAL of " + slot, heap.cell(2, slot, 0), there ? -2 : -1);
                Check.same("reads of " + slot, heap.reads(1, 1, slot, 0), there ? -2 : -1);
            }
            for (int sort = 0; sort <= 2; sort++) {
                for (int far : FAR) {
                    Check.same("cell of SLOT " + far, heap.cell(sort, far, 0), -1);
                    Check.same("reads of SLOT " + far, heap.reads(1, sort, far, 0), -1);
                }
            }
        }
    }

    private static void cellsOfFields() {
        Check.sentence("12: NONE: there is none such (FIELD 0 .. F - 1)");
        for (int fields = 1; fields <= 3; fields++) {
            StoreBufferHeap heap = new StoreBufferHeap();
            heap.heap(1, 1, 2, fields);
            for (int f = -1; f <= 4; f++) {
                boolean there = f >= 0 && f < fields;
                for (int sort = 1; sort <= 2; sort++) {
                    Check.same("FIELD " + f, heap.cell(sort, 1, f), there ? -2 : -1);
                    Check.same("FIELD " + f, heap.reads(1, sort, 0, f), there ? -2 : -1);
                }
                Check.same("FLAG has no FIELD", heap.cell(0, 1, f), 0);
            }
            for (int far : FAR) {
                Check.same("FIELD " + far, heap.cell(1, 0, far), -1);
                Check.same("FIELD " + far, heap.reads(1, 2, 0, far), -1);
            }
        }
    }

    private static void cellsWhateverSlotAndField() {
        Check.sentence("12: 3: PHASE, 4: MARK, 5: COLOUR (these whatever SLOT and FIELD)");
        StoreBufferHeap heap = new StoreBufferHeap();
        Check.same("up to PHASE mark", Check.run(heap, "0100a 0100a 0100a0a"), 17);
        int[] due = {2, 1, 1};
        for (int sort = 3; sort <= 5; sort++) {
            for (int slot : new int[] {0, 1, 7, 8, -1, Integer.MIN_VALUE, Integer.MAX_VALUE}) {
                Check.same("cell", heap.cell(sort, slot, 0), due[sort - 3]);
                Check.same("cell", heap.cell(sort, 0, slot), due[sort - 3]);
                Check.same("cell", heap.cell(sort, slot, slot), due[sort - 3]);
                Check.same("reads", heap.reads(1, sort, slot, slot), due[sort - 3]);
            }
        }
    }

    private static void cellsAreNil() {
        Check.sentence("12: 1: its FIELD's SLOT, 2: its FIELD's SERIAL (-2: NIL, of both)");
        StoreBufferHeap heap = new StoreBufferHeap();
        heap.heap(1, 1, 3, 2);
        heap.leave(3);
        Check.script(heap, 1, "new 0;drop 0;new 1;new 2;");
        heap.fair(60);
        Check.same("SLOT 0 is free", heap.colour(0), 0);
        answer(heap);
        Check.same("a new SCRIPT", Check.script(heap, 1, "new 0;store 1 1 0;store 1 1 3;"), 3);
        Check.same("new, store", Check.run(heap, "1 11b"), 4);
        Check.same("SLOT", heap.cell(1, 1, 1), 0);
        Check.same("SERIAL, not SLOT", heap.cell(2, 1, 1), 3);
        Check.same("the other FIELD is NIL", heap.cell(1, 1, 0), -2);
        Check.same("the other FIELD is NIL", heap.cell(2, 1, 0), -2);
        Check.same("store of NIL", Check.run(heap, "11b"), 3);
        Check.same("NIL", heap.cell(1, 1, 1), -2);
        Check.same("NIL", heap.cell(2, 1, 1), -2);
    }

    private static void flagsOfCells() {
        Check.sentence("Term 1: FLAG (0 or 1) of each SLOT");
        StoreBufferHeap heap = new StoreBufferHeap();
        heap.heap(1, 1, 2, 1);
        Check.script(heap, 1, "new 0;");
        Check.same("up to the ask for ROOTS", Check.run(heap, "1 0100a 0100a 0100a0a 010 0"), 22);
        Check.same("READS", Check.run(heap, "11"), 2);
        Check.same("not yet", heap.cell(0, 0, 0), 0);
        Check.same("exchange", Check.run(heap, "1"), 1);
        Check.same("in MEMORY at once", heap.cell(0, 0, 0), 1);
        Check.same("of another SLOT", heap.cell(0, 1, 0), 0);
        Check.same("as others READ it", heap.reads(0, 0, 0, 0), 1);
        Check.same("no WRITE", heap.waits(1), 0);
    }

    private static void readsOfWhom() {
        Check.sentence("13: NONE: there is none such (THREAD)");
        for (int mutators = 1; mutators <= 3; mutators++) {
            StoreBufferHeap heap = new StoreBufferHeap();
            heap.heap(mutators, 1, 1, 1);
            for (int t = -1; t <= 5; t++) {
                boolean there = t >= 0 && t <= mutators;
                for (int sort = 0; sort <= 5; sort++) {
                    int due = sort == 1 || sort == 2 ? -2 : 0;
                    Check.same("reads(" + t + ", " + sort + ")", heap.reads(t, sort, 0, 0),
                        there ? due : -1);
                }
            }
            for (int far : FAR) {
                Check.same("reads(" + far + ", 3)", heap.reads(far, 3, 0, 0), -1);
            }
            Check.same("neither", heap.reads(4, 6, 0, 0), -1);
        }
    }

    private static void readsAsCells() {
        Check.sentence("13: The same as a THREAD READS it (nothing waits)");
        StoreBufferHeap heap = new StoreBufferHeap();
        heap.heap(2, 1, 3, 2);
        heap.leave(3);
        Check.script(heap, 1, "new 0;new 1;store 0 1 1;");
        Check.same("in MEMORY", Check.run(heap, "1111b 01200a 01200a"), 17);
        for (int t = 0; t <= 2; t++) {
            for (int sort = 0; sort <= 5; sort++) {
                for (int slot = 0; slot < 3; slot++) {
                    Check.same("reads", heap.reads(t, sort, slot, 1), heap.cell(sort, slot, 1));
                }
            }
        }
        Check.same("an OBJECT", heap.reads(2, 2, 0, 1), 1);
        Check.same("PHASE", heap.reads(2, 3, 0, 0), 1);
    }

    private static void readsWhatWaits() {
        Check.sentence("13: The same as a THREAD READS it (in its own BUFFER, of that CELL)");
        StoreBufferHeap heap = new StoreBufferHeap();
        heap.heap(2, 4, 3, 2);
        heap.leave(7);
        Check.script(heap, 1, "new 0;new 1;store 0 1 1;");
        Check.same("a FIELD and MARK, PHASE wait", Check.run(heap, "1111 01200 01200"), 14);
        Check.same("its own", heap.reads(1, 1, 0, 1), 1);
        Check.same("its own", heap.reads(1, 2, 0, 1), 1);
        Check.same("another FIELD", heap.reads(1, 1, 0, 0), -2);
        Check.same("another SLOT", heap.reads(1, 1, 1, 1), -2);
        Check.same("another's", heap.reads(2, 1, 0, 1), -2);
        Check.same("the COLLECTOR's MARK", heap.reads(0, 4, 0, 0), 1);
        Check.same("the COLLECTOR's PHASE", heap.reads(0, 3, 0, 0), 1);
        Check.same("the COLLECTOR's COLOUR", heap.reads(0, 5, 0, 0), 0);
        for (int t = 1; t <= 2; t++) {
            Check.same("MARK in MEMORY", heap.reads(t, 4, 0, 0), 0);
            Check.same("PHASE in MEMORY", heap.reads(t, 3, 0, 0), 0);
        }
    }

    private static void waitsOfWhom() {
        Check.sentence("14: NONE: there is none such");
        for (int mutators = 1; mutators <= 3; mutators++) {
            StoreBufferHeap heap = new StoreBufferHeap();
            heap.heap(mutators, 1, 1, 1);
            for (int t = -1; t <= 5; t++) {
                boolean there = t >= 0 && t <= mutators;
                Check.same("waits(" + t + ")", heap.waits(t), there ? 0 : -1);
            }
            for (int far : FAR) {
                Check.same("waits(" + far + ")", heap.waits(far), -1);
            }
        }
    }

    private static void waitsUpToFull() {
        Check.sentence("14: How many WRITES are in a BUFFER (0 to B)");
        StoreBufferHeap heap = new StoreBufferHeap();
        heap.heap(1, 4, 1, 1);
        Check.script(heap, 1, "new 0;store 0 0 1;store 0 0 1;store 0 0 1;store 0 0 1;store 0 0 1;");
        Check.same("new", Check.run(heap, "1"), 1);
        for (int i = 0; i < 4; i++) {
            Check.same("before store " + i, heap.waits(1), i);
            Check.same("store", Check.run(heap, "11"), 2);
        }
        Check.same("full", heap.waits(1), 4);
        Check.same("no fifth", Check.run(heap, "11"), 1);
        Check.same("full", heap.waits(1), 4);
        Check.same("the COLLECTOR's", heap.waits(0), 0);
        for (int i = 3; i >= 0; i--) {
            Check.isTrue("COMMIT", heap.does(9));
            Check.same("left", heap.waits(1), i);
        }
    }

    /** Two WRITES wait in the BUFFER of MUTATOR 2. */
    private static StoreBufferHeap twoWait() {
        StoreBufferHeap heap = new StoreBufferHeap();
        heap.heap(2, 3, 8, 3);
        heap.leave(3);
        Check.script(heap, 2, "new 0;go 0;");
        Check.same("eight", Check.run(heap, "22".repeat(7) + "2"), 15);
        Check.same("a new SCRIPT", Check.script(heap, 2, "copy 1 0;store 0 2 1;store 1 1 2;"), 3);
        Check.same("two stores", Check.run(heap, "22222"), 5);
        Check.same("two wait", heap.waits(2), 2);
        return heap;
    }

    private static void writesOfWhom() {
        Check.sentence("15: NONE: there is none such (THREAD)");
        StoreBufferHeap heap = twoWait();
        for (int what = 0; what <= 3; what++) {
            for (int t : new int[] {-1, 3, 4}) {
                Check.same("write(" + t + ", 0, " + what + ")", heap.write(t, 0, what), -1);
            }
            Check.same("an empty BUFFER", heap.write(0, 0, what), -1);
            Check.same("an empty BUFFER", heap.write(1, 0, what), -1);
        }
        for (int far : FAR) {
            Check.same("write(" + far + ", 0, 0)", heap.write(far, 0, 0), -1);
        }
        Check.same("write(2, 0, 0)", heap.write(2, 0, 0), 1);
    }

    private static void writesByNumber() {
        Check.sentence("15: Of the k-th WRITE, from 0, the oldest, on; NONE: there is none such (k)");
        StoreBufferHeap heap = twoWait();
        Check.same("the oldest", heap.write(2, 0, 2), 2);
        Check.same("the youngest", heap.write(2, 1, 2), 1);
        for (int what = 0; what <= 3; what++) {
            Check.same("write(2, 2, " + what + ")", heap.write(2, 2, what), -1);
            Check.same("write(2, 3, " + what + ")", heap.write(2, 3, what), -1);
            for (int far : FAR) {
                Check.same("write(2, " + far + ", " + what + ")", heap.write(2, far, what), -1);
            }
        }
    }

    private static void writesWhat() {
        Check.sentence("15: what 0: the sort of its CELL (1 of a FIELD), 1: the SLOT, 2: the FIELD, "
            + "3: the number, or the SLOT (-2: NIL); NONE: there is none such (what)");
        StoreBufferHeap heap = twoWait();
        int[][] due = {{1, 7, 2, 7}, {1, 7, 1, -2}};
        for (int k = 0; k < 2; k++) {
            for (int what = 0; what <= 3; what++) {
                Check.same("write(2, " + k + ", " + what + ")", heap.write(2, k, what), due[k][what]);
            }
            for (int what : new int[] {-1, 4, 5, Integer.MIN_VALUE, Integer.MAX_VALUE}) {
                Check.same("write(2, " + k + ", " + what + ")", heap.write(2, k, what), -1);
            }
        }
    }

    private static void writesTellTheSlot() {
        Check.sentence("15: 3: the SLOT (not the SERIAL)");
        StoreBufferHeap heap = new StoreBufferHeap();
        heap.heap(1, 1, 2, 1);
        Check.script(heap, 1, "new 0;drop 0;new 1;");
        heap.fair(60);
        answer(heap);
        Check.same("SLOT 0 is free", heap.colour(0), 0);
        heap.leave(3);
        Check.script(heap, 1, "new 0;store 1 0 0;");
        Check.same("new, store", Check.run(heap, "111"), 3);
        Check.same("SLOT", heap.write(1, 0, 3), 0);
        Check.same("SERIAL", heap.reads(1, 2, 1, 0), 2);
        Check.same("of SLOT 1", heap.write(1, 0, 1), 1);
    }

    private static void writesOfTheCollector() {
        Check.sentence("15: the SLOT (0 without), the FIELD (0 without), the number");
        StoreBufferHeap heap = new StoreBufferHeap();
        heap.heap(1, 4, 8, 3);
        heap.leave(4);
        Check.same("four WRITES", Check.run(heap, "0100 0100 0100 0"), 13);
        int[][] due = {{4, 0, 0, 1}, {3, 0, 0, 1}, {3, 0, 0, 2}, {5, 0, 0, 1}};
        for (int k = 0; k < 4; k++) {
            for (int what = 0; what <= 3; what++) {
                Check.same("write(0, " + k + ", " + what + ")", heap.write(0, k, what), due[k][what]);
            }
            Check.same("write(0, " + k + ", 4)", heap.write(0, k, 4), -1);
        }
        Check.same("no fifth", heap.write(0, 4, 0), -1);
    }

    private static void writesMoveUp() {
        Check.sentence("15: the k-th WRITE of a BUFFER, the oldest being gone");
        StoreBufferHeap heap = twoWait();
        Check.isTrue("COMMIT", heap.does(10));
        int[] due = {1, 7, 1, -2};
        for (int what = 0; what <= 3; what++) {
            Check.same("write(2, 0, " + what + ")", heap.write(2, 0, what), due[what]);
            Check.same("write(2, 1, " + what + ")", heap.write(2, 1, what), -1);
        }
        Check.isTrue("COMMIT", heap.does(10));
        Check.same("none", heap.write(2, 0, 0), -1);
    }

    private static void workOfWhom() {
        Check.sentence("16: NONE: there is none such");
        for (int mutators = 1; mutators <= 3; mutators++) {
            StoreBufferHeap heap = new StoreBufferHeap();
            heap.heap(mutators, 1, 1, 1);
            for (int t = -1; t <= 5; t++) {
                boolean there = t >= 0 && t <= mutators;
                Check.same("work(" + t + ")", heap.work(t), there ? 0 : -1);
            }
            for (int far : FAR) {
                Check.same("work(" + far + ")", heap.work(far), -1);
            }
        }
    }

    private static void workInBits() {
        Check.sentence("16: WORK of a THREAD (bits of SLOTS), the first and the last");
        StoreBufferHeap heap = new StoreBufferHeap();
        heap.heap(1, 1, 8, 1);
        Check.script(heap, 1, "new 0;new 1;go 1;");
        Check.same("eight", Check.run(heap, "1" + "11".repeat(6) + "1"), 14);
        Check.script(heap, 1, "");
        Check.same("up to the ask for ROOTS", Check.run(heap, "0100a 0100a 0100a0a 010 0"), 21);
        Check.same("SLOT 0", Check.run(heap, "111"), 3);
        Check.same("bit 0", heap.work(1), 1);
        Check.same("SLOT 7", Check.run(heap, "111"), 3);
        Check.same("bits 0 and 7", heap.work(1), 129);
        Check.same("not the COLLECTOR's", heap.work(0), 0);
        Check.same("handed over", Check.run(heap, "1"), 1);
        Check.same("the COLLECTOR's", heap.work(0), 129);
        Check.same("none is left", heap.work(1), 0);
    }
}
