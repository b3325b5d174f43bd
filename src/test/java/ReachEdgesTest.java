/** Boundary sentences of Term 4 and of promises 18 to 24. */
public final class ReachEdgesTest {
    private static final int[] FAR = {Integer.MIN_VALUE, -2, -1, 99, Integer.MAX_VALUE};
    private static final String TO_ROOTS = "0100a 0100a 0100a0a 010 0";

    public static void main(String[] args) {
        coloursOfSlots();
        freeGoesFirst();
        whiteInMemory();
        greyInSomeWork();
        whiteInWork();
        serialsOfSlots();
        serialsOfFreeSlots();
        reachedByRegisters();
        reachedByWrites();
        reachedByAllWrites();
        reachedByMarks();
        reachedByStores();
        reachedByFields();
        reachedNotByWork();
        reachedAllOrNone();
        lostAreFree();
        lostHoldAnother();
        lostThroughFields();
        harmIsNone();
        harmIsZero();
        harmIsTheFirst();
        harmIsInMemory();
        strayThroughFree();
        strayThroughAnother();
        strayIsOnceAStore();
        seenOfWhom();
        seenByNumber();
        seenOfTheLastThirtyTwo();
        worstNumbers();
        worstWhat();
        worstOfNone();
        worstIsTheMost();
        worstIsTheLeastRow();
        worstPassesOver();
        worstOfHarmfulSteps();
        worstLeavesNothing();
        worstIsFromNowOn();
        Check.end();
    }

    private static void coloursOfSlots() {
        Check.sentence("18: NONE: there is none such SLOT");
        for (int slots = 1; slots <= 8; slots++) {
            StoreBufferHeap heap = Scenes.heapOf(1, slots, 1, "");
            for (int slot = -1; slot <= 9; slot++) {
                boolean there = slot >= 0 && slot < slots;
                Check.same("colour(" + slot + ") of " + slots, heap.colour(slot), there ? 0 : -1);
            }
            for (int far : FAR) {
                Check.same("colour(" + far + ")", heap.colour(far), -1);
            }
        }
    }

    private static void freeGoesFirst() {
        Check.sentence("Term 4: COLOURS: 0 free, whatever its FLAG is");
        StoreBufferHeap heap = Scenes.heapOf(1, 2, 1, "new 0;drop 0;");
        Check.same("free, FLAG is MARK", heap.colour(0), 0);
        Scenes.goes(heap, "1");
        Check.same("not free", heap.colour(0), 3);
        Scenes.goes(heap, "1 0100a");
        Check.same("free, FLAG is not MARK", heap.colour(1), 0);
        Check.same("not free", heap.colour(0), 1);
        Scenes.goes(heap, "0100a 0100a0a 010 010 010 0a");
        Check.same("not yet", heap.colour(0), 1);
        Scenes.goes(heap, "0");
        Check.same("freed", heap.colour(0), 0);
    }

    private static void whiteInMemory() {
        Check.sentence("Term 4: 1 white (FLAG in MEMORY is not MARK there)");
        StoreBufferHeap heap = Scenes.heapOf(1, 1, 1, "new 0;");
        Scenes.goes(heap, "1");
        Check.same("alike", heap.colour(0), 3);
        Scenes.goes(heap, "0100");
        Check.same("MARK waits", heap.reads(0, 4, 0, 0), 1);
        Check.same("alike in MEMORY", heap.colour(0), 3);
        Scenes.goes(heap, "a");
        Check.same("not alike in MEMORY", heap.colour(0), 1);
        StoreBufferHeap other = Scenes.heapOf(1, 1, 1, "");
        Scenes.goes(other, "0100a 0100a 0100a");
        Check.script(other, 1, "new 0;");
        Scenes.goes(other, "1");
        Check.same("COLOUR is not MARK yet", other.colour(0), 1);
        StoreBufferHeap third = Scenes.heapOf(1, 1, 1, "");
        Scenes.goes(third, "0100a 0100a 0100a0a");
        Check.script(third, 1, "new 0;");
        Scenes.goes(third, "1");
        Check.same("COLOUR is MARK", third.colour(0), 3);
    }

    private static void greyInSomeWork() {
        Check.sentence("Term 4: 2 grey (in some WORK), 3 black");
        StoreBufferHeap heap = Scenes.heapOf(1, 2, 1, "new 0;new 1;");
        Scenes.goes(heap, "11" + TO_ROOTS);
        int[] first = {1, 1, 2, 2, 2, 2};
        int[] second = {1, 1, 1, 1, 1, 2};
        for (int i = 0; i < 6; i++) {
            Scenes.goes(heap, "1");
            Check.same("0 after " + i, heap.colour(0), first[i]);
            Check.same("1 after " + i, heap.colour(1), second[i]);
        }
        Scenes.goes(heap, "1");
        Check.same("in the COLLECTOR's", heap.colour(0), 2);
        Scenes.goes(heap, "0 0");
        Check.same("READ", heap.colour(0), 2);
        Scenes.goes(heap, "0");
        Check.same("gone from WORK", heap.colour(0), 3);
        Check.same("still there", heap.colour(1), 2);
        Scenes.goes(heap, "00");
        Check.same("gone from WORK", heap.colour(1), 3);
    }

    private static void whiteInWork() {
        Check.sentence("Term 4: COLOURS go by their order: white before grey");
        StoreBufferHeap heap = Scenes.inWorkAndWhite();
        Check.same("in WORK, and its FLAG is not MARK", heap.colour(0), 1);
        heap.leave(0);
        Scenes.goes(heap, "1b 010 0a 010 0a0a 010 0 111");
        Check.same("in WORK, and its FLAG is MARK", heap.colour(0), 2);
    }

    private static void serialsOfSlots() {
        Check.sentence("19: NONE: there was none, or there is none such");
        for (int slots = 1; slots <= 8; slots++) {
            StoreBufferHeap heap = Scenes.heapOf(1, slots, 1, "new 0;go 0;");
            for (int made = 0; made <= slots; made++) {
                Check.same("made last", heap.serial(made - 1), made - 1);
                Check.same("not made yet", heap.serial(made), -1);
                Check.run(heap, "11");
            }
            Check.same("serial(" + slots + ")", heap.serial(slots), -1);
            for (int far : FAR) {
                Check.same("serial(" + far + ")", heap.serial(far), -1);
            }
        }
    }

    private static void serialsOfFreeSlots() {
        Check.sentence("19: SERIAL of the OBJECT in a SLOT (of the last one, if it is free)");
        StoreBufferHeap heap = Scenes.heapOf(1, 1, 1, "new 0;drop 0;new 0;drop 0;new 0;");
        int freed = 0;
        for (int i = 0; i < 120; i++) {
            heap.fair(1);
            Check.same("the last one made", heap.serial(0), heap.count(4) - 1);
            freed += heap.colour(0) == 0 ? 1 : 0;
        }
        Check.isTrue("free at times", freed > 0);
        Check.same("three were made", heap.serial(0), 2);
    }

    private static void reachedByRegisters() {
        Check.sentence("Term 4: REACHED: SLOTS of all REFERENCES in REGISTERS");
        for (int r = 0; r <= 3; r++) {
            StoreBufferHeap heap = new StoreBufferHeap();
            heap.heap(3, 1, 3, 1);
            for (int m = 1; m <= 3; m++) {
                Check.script(heap, m, "new " + r + ";drop " + r + ";");
            }
            int[] due = {1, 3, 7, 6, 4, 0};
            for (int i = 0; i < 6; i++) {
                Scenes.goes(heap, "" + (i % 3 + 1));
                Check.same("REGISTER " + r + " after " + i, heap.reached(), due[i]);
            }
        }
    }

    private static void reachedByWrites() {
        Check.sentence("Term 4: REACHED: in BUFFERS' WRITES");
        StoreBufferHeap heap = Scenes.heapOf(2, 3, 1, "new 0;new 1;store 0 0 1;drop 1;drop 0;");
        Scenes.goes(heap, "11 111 1");
        Check.same("0 by a REGISTER, 1 by the WRITE", heap.reached(), 3);
        Scenes.goes(heap, "1");
        Check.same("1 by the WRITE, 0 by nothing", heap.reached(), 2);
        Scenes.goes(heap, "b");
        Check.same("no WRITE", heap.reached(), 0);
        StoreBufferHeap nil = Scenes.heapOf(2, 3, 1, "new 0;store 0 0 1;drop 0;");
        Scenes.goes(nil, "1 11 1");
        Check.same("a WRITE of NIL", nil.reached(), 0);
        StoreBufferHeap numbers = Scenes.heapOf(2, 3, 1, "new 0;new 1;drop 0;drop 1;");
        Scenes.goes(numbers, "1111 0100");
        Check.same("a WRITE of MARK 1", numbers.waits(0), 1);
        Check.same("is no REFERENCE", numbers.reached(), 0);
    }

    private static void reachedByAllWrites() {
        Check.sentence("Term 4: REACHED: in BUFFERS' WRITES, all of them");
        for (int size = 2; size <= 4; size++) {
            StoreBufferHeap heap = Scenes.heapOf(size, 8, 1, "new 3;new 0;store 3 0 0;go 1;");
            heap.leave(3);
            Scenes.goes(heap, "1" + "1111".repeat(size));
            Check.same("full", heap.waits(1), size);
            Check.script(heap, 1, "drop 0;drop 3;");
            Scenes.goes(heap, "11");
            for (int left = size; left > 0; left--) {
                int due = (2 << size) - (2 << size - left);
                Check.same(left + " of " + size + " wait", heap.reached(), due);
                Scenes.goes(heap, "b");
            }
            Check.same("none waits", heap.reached(), 0);
        }
    }

    private static void reachedByMarks() {
        Check.sentence("Term 4: REACHED: in what is being TO MARK");
        StoreBufferHeap heap = Scenes.heapOf(1, 2, 1, "new 0;new 1;store 0 0 1;drop 1;store 0 0 2;drop 0;");
        Scenes.goes(heap, "11 111b 1" + TO_ROOTS + "1111 0");
        heap.leave(3);
        Scenes.goes(heap, "11b");
        Check.same("0 holds nothing any more", heap.reached(), 1);
        StoreBufferHeap held = Scenes.heapOf(1, 2, 1, "new 0;new 1;store 0 0 1;drop 1;store 0 0 2;drop 0;");
        Scenes.goes(held, "11 111b 1" + TO_ROOTS + "1111 0 0");
        held.leave(3);
        Scenes.goes(held, "11b 1");
        for (int i = 0; i < 3; i++) {
            Check.same("the COLLECTOR has READ it", held.reached(), 2);
            Scenes.goes(held, "0");
        }
        Check.same("it is marked", held.work(0), 3);
        Check.same("that is all", held.reached(), 0);
    }

    /** 0 is free, MUTATOR 1 stores through it, and MUTATOR 2 makes it anew in between. */
    private static void reachedByStores() {
        Check.sentence("Term 4: REACHED: or waits in a store");
        StoreBufferHeap heap = Scenes.aheadOfTheSweep(2, 3, 1, "new 0;new 1;store 0 0 1;drop 1;", 5);
        Scenes.goes(heap, "b 0");
        heap.leave(6);
        Check.script(heap, 1, "store 0 0 2;drop 0;");
        Check.script(heap, 2, "new 0;drop 0;");
        Scenes.goes(heap, "1");
        Check.same("0 holds 1", heap.reached(), 3);
        Scenes.goes(heap, "2");
        Check.same("0 is another, and holds NIL", heap.cell(1, 0, 0), -2);
        Check.same("1 was READ by the store", heap.reached(), 3);
        Scenes.goes(heap, "1 1");
        Check.same("it is being TO MARK", heap.reached(), 3);
        Scenes.goes(heap, "a 1");
        Check.same("it is marked", heap.work(1), 2);
        Check.same("that is all", heap.reached(), 1);
    }

    private static void reachedByFields() {
        Check.sentence("Term 4: those in FIELDS (in MEMORY) of SLOTS that are REACHED; and so on");
        StoreBufferHeap heap = Scenes.heapOf(4, 8, 3, "new 1;new 0;store 0 2 1;copy 1 0;go 1;");
        heap.leave(3);
        Scenes.goes(heap, "1" + "1111b1".repeat(7).substring(0, 41));
        Check.script(heap, 1, "drop 1;store 0 2 3;drop 0;");
        Scenes.goes(heap, "1");
        Check.same("a chain of eight", heap.reached(), 255);
        Scenes.goes(heap, "11");
        Check.same("cut in the BUFFER alone", heap.reached(), 255);
        Scenes.goes(heap, "b");
        Check.same("cut in MEMORY", heap.reached(), 128);
        Scenes.goes(heap, "1");
        Check.same("let go", heap.reached(), 0);
        StoreBufferHeap rising = Scenes.heapOf(4, 8, 3, "new 0;copy 1 0;new 2;store 1 2 2;copy 1 2;go 2;");
        rising.leave(3);
        Scenes.goes(rising, "11" + "111b11".repeat(7));
        Check.script(rising, 1, "drop 1;drop 2;load 0 0 2;go 2;");
        Scenes.goes(rising, "11");
        for (int first = 0; first < 8; first++) {
            Check.same("a chain from " + first + " on", rising.reached(), 256 - (1 << first));
            Scenes.goes(rising, "11");
        }
        Check.same("behind its end", rising.reached(), 0);
        StoreBufferHeap ring = Scenes.heapOf(4, 3, 1, "new 0;new 1;store 0 0 1;store 1 0 0;drop 0;drop 1;");
        Scenes.goes(ring, "11 111b 111b 1");
        Check.same("a ring", ring.reached(), 3);
        Scenes.goes(ring, "1");
        Check.same("a ring that nothing holds", ring.reached(), 0);
    }

    private static void reachedNotByWork() {
        Check.sentence("Term 4: REACHED: (not by WORK, nor by being no free one)");
        StoreBufferHeap heap = Scenes.heapOf(1, 2, 1, "new 0;drop 0;");
        Scenes.goes(heap, "1" + TO_ROOTS + "111");
        Check.same("in WORK and in a REGISTER", heap.reached(), 1);
        Scenes.goes(heap, "1 1");
        Check.same("in WORK alone", heap.work(0), 1);
        Check.same("not REACHED", heap.reached(), 0);
        Check.same("not LOST", heap.lost(), 0);
    }

    private static void reachedAllOrNone() {
        Check.sentence("20: REACHED (bits), from none to all of eight");
        StoreBufferHeap heap = Scenes.heapOf(1, 8, 1, "new 0;new 1;new 2;new 3;");
        Check.same("none", heap.reached(), 0);
        for (int i = 1; i <= 4; i++) {
            Scenes.goes(heap, "1");
            Check.same("after " + i, heap.reached(), (1 << i) - 1);
        }
        Check.script(heap, 1, "new 0;new 1;new 2;new 3;");
        Scenes.goes(heap, "1111");
        Check.same("the last four", heap.reached(), 240);
    }

    private static void lostAreFree() {
        Check.sentence("Term 4: LOST: REACHED SLOTS that are free");
        StoreBufferHeap heap = Scenes.aheadOfTheSweep(1, 3, 1, "new 0;new 1;new 2;drop 1;", 4);
        int[] due = {0, 1, 1, 5};
        int[] freed = {0, 1, 2, 3};
        for (int i = 0; i < 4; i++) {
            Check.same("LOST after " + i, heap.lost(), due[i]);
            Check.same("freed after " + i, heap.count(5), freed[i]);
            Check.same("REACHED all the same", heap.reached(), 5);
            heap.does(0);
        }
        Check.script(heap, 1, "drop 0;drop 2;");
        Scenes.goes(heap, "1");
        Check.same("let go: not REACHED, not LOST", heap.lost(), 4);
        Scenes.goes(heap, "1");
        Check.same("let go", heap.lost(), 0);
    }

    private static void lostHoldAnother() {
        Check.sentence("Term 4: or hold another OBJECT than that REFERENCE's");
        StoreBufferHeap heap = Scenes.aheadOfTheSweep(1, 1, 1, "new 0;copy 1 0;", 2);
        Scenes.goes(heap, "0");
        Check.same("free", heap.lost(), 1);
        Check.script(heap, 1, "new 0;drop 1;drop 0;");
        Scenes.goes(heap, "1");
        Check.same("another OBJECT is there", heap.serial(0), 1);
        Check.same("one REFERENCE is to the old one", heap.lost(), 1);
        Check.same("REACHED", heap.reached(), 1);
        Scenes.goes(heap, "1");
        Check.same("one is to the new one", heap.lost(), 0);
        Check.same("REACHED", heap.reached(), 1);
        Scenes.goes(heap, "1");
        Check.same("none is", heap.reached(), 0);
    }

    private static void lostThroughFields() {
        Check.sentence("21: LOST (bits), through FIELDS of free SLOTS too");
        StoreBufferHeap heap = Scenes.aheadOfTheSweep(1, 8, 1, "new 0;new 1;store 0 0 1;drop 1;"
            + "new 2;new 3;drop 3;new 3;drop 3;new 3;drop 3;new 3;drop 3;new 3;", 15);
        Scenes.goes(heap, "b");
        Check.same("0 holds 1", heap.cell(1, 0, 0), 1);
        Check.same("REACHED", heap.reached(), 135);
        int[] due = {1, 3, 7, 7, 7, 7, 7, 135};
        for (int slot = 0; slot < 8; slot++) {
            Scenes.goes(heap, "0");
            Check.same("after SLOT " + slot, heap.lost(), due[slot]);
        }
        Check.same("FIELDS of free SLOTS are followed", heap.reached(), 135);
    }

    private static void harmIsNone() {
        Check.sentence("22: NONE: there is none");
        StoreBufferHeap heap = Scenes.heapOf(1, 3, 1, "new 0;new 1;store 0 0 1;drop 1;");
        Check.same("no OBJECTS", heap.harm(), -1);
        Scenes.goes(heap, "11 111b 1");
        Check.same("black holds black", heap.harm(), -1);
        Scenes.goes(heap, "0100a");
        Check.same("white holds white", heap.harm(), -1);
        Scenes.goes(heap, "0100a 0100a0a 010 0 1111 0");
        Check.same("grey holds white", heap.harm(), -1);
        Scenes.goes(heap, "0000");
        Check.same("grey holds grey", heap.harm(), -1);
        Scenes.goes(heap, "0");
        Check.same("black holds grey", heap.harm(), -1);
        Scenes.goes(heap, "00");
        Check.same("black holds black", heap.harm(), -1);
    }

    /** 1 holds 0; both 1 and 7 are roots; 0 is taken out of 1 before the scan, and put back after. */
    private static StoreBufferHeap aheadOfHarm() {
        StoreBufferHeap heap = Scenes.heapOf(1, 8, 3, "new 2;new 0;store 0 0 2;drop 2;new 3;new 3;new 3;new 3;"
            + "new 3;new 1;drop 3;load 3 0 0;store 0 0 2;store 1 2 3;store 0 2 3;store 0 1 3;");
        heap.leave(3);
        Scenes.goes(heap, "11 11b 1 11111 1 1");
        Scenes.goes(heap, TO_ROOTS + "1111111 0");
        Check.same("1 and 7", heap.work(0), 130);
        Scenes.goes(heap, "1 11b");
        Scenes.goes(heap, "0000 0000");
        Check.same("7 is black", heap.colour(7), 3);
        Check.same("0 is white", heap.colour(0), 1);
        Check.same("none yet", heap.harm(), -1);
        return heap;
    }

    private static void harmIsZero() {
        Check.sentence("22: 100 * SLOT and FIELD: 0 of SLOT 0 and FIELD 0");
        StoreBufferHeap heap = Scenes.heapOf(1, 3, 1, "new 0;new 1;new 2;store 1 0 2;drop 2;load 2 1 0;store 1 0 3;"
            + "store 0 0 2;");
        heap.leave(3);
        Scenes.goes(heap, "111 11b 1" + TO_ROOTS + "1111111 0");
        Scenes.goes(heap, "1 11b");
        Scenes.goes(heap, "00 00");
        Check.same("0 is black", heap.colour(0), 3);
        Check.same("2 is white", heap.colour(2), 1);
        Check.same("none yet", heap.harm(), -1);
        Scenes.goes(heap, "11b");
        Check.same("SLOT 0, FIELD 0", heap.harm(), 0);
    }

    private static void harmIsTheFirst() {
        Check.sentence("22: as 100 * SLOT and FIELD the first, by SLOTS, then FIELDS");
        StoreBufferHeap heap = aheadOfHarm();
        Scenes.goes(heap, "11b");
        Check.same("SLOT 7, FIELD 2", heap.harm(), 702);
        Scenes.goes(heap, "11b");
        Check.same("SLOT 1, FIELD 2", heap.harm(), 102);
        Scenes.goes(heap, "11b");
        Check.same("SLOT 1, FIELD 1", heap.harm(), 101);
        Check.script(heap, 1, "store 0 0 3;store 0 0 2;store 0 1 2;store 0 2 2;store 1 2 2;");
        int[] due = {100, 101, 102, 702, -1};
        for (int i = 0; i < due.length; i++) {
            Scenes.goes(heap, "11b");
            Check.same("after store " + i, heap.harm(), due[i]);
        }
    }

    private static void harmIsInMemory() {
        Check.sentence("Term 4: HARM: a FIELD (in MEMORY) of a black SLOT holds a white one");
        StoreBufferHeap heap = aheadOfHarm();
        Scenes.goes(heap, "11");
        Check.same("it waits", heap.harm(), -1);
        Scenes.goes(heap, "b");
        Check.same("in MEMORY", heap.harm(), 702);
        heap.leave(0);
        Check.script(heap, 1, "store 1 2 3;");
        Scenes.goes(heap, "1 11");
        Check.same("not marked yet", heap.harm(), 702);
        Scenes.goes(heap, "1");
        Check.same("grey by the barrier", heap.colour(0), 2);
        Check.same("black holds grey", heap.harm(), -1);
    }

    private static void strayThroughFree() {
        Check.sentence("Term 4: STRAY: a load or store through a REFERENCE whose SLOT is free (it is done "
            + "all the same); they are counted");
        StoreBufferHeap heap = Scenes.aheadOfTheSweep(1, 2, 2, "new 0;new 1;store 0 1 1;", 4);
        Scenes.goes(heap, "b");
        Check.script(heap, 1, "load 2 0 1;load 3 0 1;see 0;copy 2 0;store 0 0 1;store 1 0 0;drop 0;load 1 0 1;");
        Scenes.goes(heap, "1");
        Check.same("no free one", heap.count(6), 0);
        Scenes.goes(heap, "00");
        Check.same("both are free", heap.count(7), 2);
        Scenes.goes(heap, "1");
        Check.same("load through a free one", heap.count(6), 1);
        Check.same("it is done", heap.root(1, 3, false), 1);
        Scenes.goes(heap, "11");
        Check.same("see and copy are none", heap.count(6), 1);
        Scenes.goes(heap, "11b");
        Check.same("store through a free one", heap.count(6), 2);
        Check.same("it is done", heap.cell(1, 0, 0), 1);
        Scenes.goes(heap, "11b");
        Check.same("store through the other", heap.count(6), 3);
        Scenes.goes(heap, "1 1");
        Check.same("through NIL is none", heap.count(6), 3);
    }

    private static void strayThroughAnother() {
        Check.sentence("Term 4: STRAY: or holds another OBJECT");
        StoreBufferHeap heap = Scenes.aheadOfTheSweep(1, 1, 1, "new 0;", 1);
        Scenes.goes(heap, "0");
        Check.script(heap, 1, "new 1;load 2 1 0;load 2 0 0;store 1 0 0;store 0 0 1;");
        Scenes.goes(heap, "1 1");
        Check.same("through the new one", heap.count(6), 0);
        Scenes.goes(heap, "1");
        Check.same("through the old one", heap.count(6), 1);
        Scenes.goes(heap, "11b");
        Check.same("a store of the old one into the new one", heap.count(6), 1);
        Check.same("it is done", heap.cell(2, 0, 0), 0);
        Scenes.goes(heap, "11b");
        Check.same("a store through the old one", heap.count(6), 2);
        Check.same("it is done, to the SLOT", heap.cell(2, 0, 0), 1);
    }

    private static void strayIsOnceAStore() {
        Check.sentence("Term 4: STRAY: they are counted (a store of many STEPS is one)");
        StoreBufferHeap heap = Scenes.aheadOfTheSweep(1, 2, 1, "new 0;new 1;store 0 0 1;", 4);
        Scenes.goes(heap, "b 00");
        heap.leave(4);
        Check.script(heap, 1, "store 0 0 0;");
        Scenes.goes(heap, "1");
        Check.same("by its first STEP", heap.count(6), 1);
        Scenes.goes(heap, "a 111 111 1 b");
        Check.same("once", heap.count(6), 1);
        Check.same("done", heap.cell(1, 0, 0), 0);
    }

    private static void seenOfWhom() {
        Check.sentence("23: -2: there is none such (MUTATOR)");
        for (int mutators = 1; mutators <= 3; mutators++) {
            StoreBufferHeap heap = new StoreBufferHeap();
            heap.heap(mutators, 1, 1, 1);
            for (int m = 1; m <= mutators; m++) {
                Check.script(heap, m, "see 0;");
                heap.does(m);
            }
            for (int m = -1; m <= 5; m++) {
                Check.same("seen(" + m + ", 0)", heap.seen(m, 0), m >= 1 && m <= mutators ? -1 : -2);
            }
            for (int far : FAR) {
                Check.same("seen(" + far + ", 0)", heap.seen(far, 0), -2);
            }
        }
    }

    private static void seenByNumber() {
        Check.sentence("23: The k-th SERIAL that a MUTATOR has SEEN, from 0 on (-1: NIL). -2: there is none such");
        StoreBufferHeap heap = Scenes.heapOf(1, 2, 1, "see 0;new 0;see 0;new 0;see 0;");
        Check.same("none yet", heap.seen(1, 0), -2);
        Scenes.goes(heap, "1");
        Check.same("NIL", heap.seen(1, 0), -1);
        Check.same("no second", heap.seen(1, 1), -2);
        Scenes.goes(heap, "1111");
        int[] due = {-2, -1, 0, 1, -2};
        for (int k = -1; k <= 3; k++) {
            Check.same("seen(1, " + k + ")", heap.seen(1, k), due[k + 1]);
        }
        for (int far : FAR) {
            Check.same("seen(1, " + far + ")", heap.seen(1, far), -2);
        }
    }

    /** Each see tells another SERIAL or NIL, so that it can be told which ones are kept. */
    private static void seenOfTheLastThirtyTwo() {
        Check.sentence("23: of the last 32 of it");
        StoreBufferHeap heap = Scenes.heapOf(1, 8, 1, "see 0;new 0;see 0;");
        Scenes.goes(heap, "111");
        Check.script(heap, 1, "see 3;go 0;");
        Scenes.goes(heap, "11".repeat(29) + "1");
        Check.same("32 were SEEN", heap.count(11), 32);
        Check.same("the first is kept", heap.seen(1, 0), -1);
        Check.same("the second", heap.seen(1, 1), 0);
        Check.same("the last", heap.seen(1, 31), -1);
        Check.same("no more", heap.seen(1, 32), -2);
        Scenes.goes(heap, "11");
        Check.same("33 were SEEN", heap.count(11), 33);
        Check.same("the second is the first now", heap.seen(1, 0), 0);
        Check.same("NIL", heap.seen(1, 1), -1);
        Check.same("32 are kept", heap.seen(1, 31), -1);
        Check.same("not 33", heap.seen(1, 32), -2);
        Check.script(heap, 1, "see 0;");
        heap.does(1);
        heap.does(1);
        Check.same("the last", heap.seen(1, 31), 0);
        Check.same("the second is gone", heap.seen(1, 0), -1);
        Check.same("34", heap.count(11), 34);
    }

    private static void worstNumbers() {
        Check.sentence("24: WORST over n, 0 to 3; NONE: another n");
        StoreBufferHeap heap = new StoreBufferHeap();
        for (int n = 0; n <= 3; n++) {
            Check.same("worst(" + n + ", 0)", heap.worst(n, 0), 0);
        }
        for (int n : new int[] {-1, 4, 5, Integer.MIN_VALUE, Integer.MAX_VALUE}) {
            for (int what = 0; what <= 4; what++) {
                Check.same("worst(" + n + ", " + what + ")", heap.worst(n, what), -1);
            }
        }
    }

    private static void worstWhat() {
        Check.sentence("24: what 0: how many are LOST, 1 + k: the k-th ENTRY; NONE: there is none such");
        StoreBufferHeap heap = new StoreBufferHeap();
        for (int n = 0; n <= 3; n++) {
            for (int what = 0; what <= 5; what++) {
                Check.same("worst(" + n + ", " + what + ")", heap.worst(n, what), what <= n ? 0 : -1);
            }
            for (int far : FAR) {
                Check.same("worst(" + n + ", " + far + ")", heap.worst(n, far), -1);
            }
        }
    }

    private static void worstOfNone() {
        Check.sentence("Term 4: WORST over 0 ENTRIES: LOST as it is now");
        StoreBufferHeap heap = Scenes.aheadOfTheSweep(1, 3, 1, "new 0;new 1;new 2;", 3);
        for (int swept = 0; swept <= 3; swept++) {
            Check.same("worst(0, 0) after " + swept, heap.worst(0, 0), swept);
            Check.same("LOST", Integer.bitCount(heap.lost()), swept);
            heap.does(0);
        }
    }

    private static void worstIsTheMost() {
        Check.sentence("Term 4: the most LOST at the end");
        for (int objects = 0; objects <= 4; objects++) {
            String script = "new 0;new 1;new 2;new 3;".substring(0, 6 * objects);
            StoreBufferHeap heap = Scenes.aheadOfTheSweep(1, 4, 1, script, objects);
            for (int n = 0; n <= 3; n++) {
                Check.same(objects + " OBJECTS over " + n, heap.worst(n, 0), Math.min(n, objects));
            }
        }
        StoreBufferHeap kept = Scenes.aheadOfTheSweep(1, 1, 1, "new 0;drop 0;", 1);
        Check.same("a drop may come after", kept.worst(2, 0), 1);
        Check.same("or never", kept.worst(2, 1), 0);
        Scenes.goes(kept, "1");
        Check.same("but not before", kept.worst(3, 0), 0);
    }

    private static void rowIs(StoreBufferHeap heap, int... due) {
        for (int k = 0; k < due.length; k++) {
            Check.same("ENTRY " + k + " of " + due.length, heap.worst(due.length, 1 + k), due[k]);
        }
        Check.same("no more", heap.worst(due.length, 1 + due.length), -1);
    }

    private static void worstIsTheLeastRow() {
        Check.sentence("Term 4: and the least row that brings it (STEPS of THREADS, then COMMITS, as numbers)");
        StoreBufferHeap heap = Scenes.aheadOfTheSweep(2, 2, 1, "new 0;", 1);
        rowIs(heap, 0);
        rowIs(heap, 0, 0);
        rowIs(heap, 0, 0, 0);
        StoreBufferHeap second = Scenes.aheadOfTheSweep(1, 2, 1, "new 1;new 0;drop 1;", 3);
        Check.same("the second SLOT", second.worst(1, 0), 0);
        rowIs(second, 0);
        Check.same("over two", second.worst(2, 0), 1);
        rowIs(second, 0, 0);
        StoreBufferHeap full = new StoreBufferHeap();
        full.leave(7);
        Scenes.goes(full, "0100 010a0 010a0 a0 010 010");
        Check.script(full, 1, "new 0;");
        Scenes.goes(full, "1 010");
        Check.same("two are too few", full.worst(2, 0), 0);
        rowIs(full, 0, 0);
        Check.same("COLOUR must be done first", full.worst(3, 0), 1);
        rowIs(full, 8, 0, 0);
        Scenes.goes(full, "a");
        Check.same("two now", full.worst(2, 0), 1);
        rowIs(full, 0, 0);
        rowIs(full, 0, 0, 0);
    }

    private static void worstPassesOver() {
        Check.sentence("Term 4: done from now on (BLOCKED ones passed over)");
        StoreBufferHeap heap = new StoreBufferHeap();
        Scenes.goes(heap, "0");
        Check.same("BLOCKED", heap.about(0, 3), 1);
        rowIs(heap, 0, 0, 0);
        Check.same("none", heap.worst(3, 0), 0);
        StoreBufferHeap lost = Scenes.aheadOfTheSweep(1, 1, 1, "new 0;", 1);
        Scenes.goes(lost, "0");
        Check.same("BLOCKED: idle finds no room", lost.about(0, 3), 1);
        Check.same("it stays LOST", lost.worst(3, 0), 1);
        rowIs(lost, 0, 0, 0);
    }

    /**
     * Each MUTATOR is about to drop what is LOST, and the COLLECTOR about to end a mark of what is LOST
     * and held by nothing else: every STEP takes one away.
     */
    private static StoreBufferHeap everyStepMends(int mutators) {
        StoreBufferHeap heap = new StoreBufferHeap();
        heap.heap(mutators, 1, 5, 1);
        heap.leave(7);
        String all = "123".substring(0, mutators);
        String asked = "0" + all + "0";
        Scenes.goes(heap, asked + "0" + asked + "a0" + asked + "a0a0" + asked + asked);
        Check.script(heap, 1, "new 2;new 1;new 0;store 0 0 2;drop 2;store 0 0 3;drop 1;");
        Scenes.goes(heap, "11");
        for (int m = 2; m <= mutators; m++) {
            Check.script(heap, m, "new 0;drop 0;");
            Scenes.goes(heap, "" + m);
        }
        Scenes.goes(heap, asked + "a 1 11b 1 0");
        Scenes.goes(heap, "00000 a0a");
        Check.same("all but the last one are freed", heap.count(5), mutators + 1);
        Scenes.goes(heap, asked + "0a" + asked + "0a" + asked + "0a0a" + asked + "0 11111");
        Scenes.goes(heap, "22 33".substring(0, mutators == 1 ? 0 : 3 * mutators - 4) + "0 0 11b");
        return heap;
    }

    private static void worstOfHarmfulSteps() {
        Check.sentence("Term 4: of all rows of n ENTRIES (STEPS of THREADS 0 .. T, then COMMITS)");
        for (int mutators = 1; mutators <= 3; mutators++) {
            StoreBufferHeap heap = everyStepMends(mutators);
            int most = mutators + 1;
            Check.same("LOST", Integer.bitCount(heap.lost()), most);
            heap.image(0);
            for (int t = 0; t <= mutators; t++) {
                Scenes.goes(heap, "" + t);
                Check.same("a STEP of " + t, Integer.bitCount(heap.lost()), most - 1);
                heap.again(0);
            }
            for (int n = 0; n <= 3; n++) {
                Check.same("the most over " + n, heap.worst(n, 0), most);
            }
            rowIs(heap, 8);
            rowIs(heap, 8, 8);
            rowIs(heap, 8, 8, 8);
            Scenes.goes(heap, "" + mutators);
            Check.same("one less", heap.worst(3, 0), most - 1);
            rowIs(heap, mutators);
            rowIs(heap, mutators, mutators);
            rowIs(heap, mutators, mutators, mutators);
        }
    }

    private static void worstIsFromNowOn() {
        Check.sentence("Term 4: done from now on (after every call that changes the HEAP)");
        StoreBufferHeap heap = Scenes.aheadOfTheSweep(1, 3, 1, "new 0;new 1;new 2;", 3);
        heap.image(0);
        Check.same("none yet", heap.worst(0, 0), 0);
        heap.does(0);
        Check.same("after does", heap.worst(0, 0), 1);
        Check.run(heap, "0");
        Check.same("after run", heap.worst(0, 0), 2);
        heap.fair(1);
        Check.same("after fair", heap.worst(0, 0), 3);
        heap.again(0);
        Check.same("after again", heap.worst(0, 0), 0);
        Check.run(heap, "00");
        Check.same("two", heap.worst(0, 0), 2);
        heap.heap(1, 1, 1, 1);
        Check.same("after heap", heap.worst(0, 0), 0);
        heap.again(0);
        Check.same("over 3", heap.worst(3, 0), 3);
        Check.same("over 2", heap.worst(2, 0), 2);
        Check.same("over 3 again", heap.worst(3, 0), 3);
    }

    private static void worstLeavesNothing() {
        Check.sentence("Term 4: (nothing of it stays)");
        StoreBufferHeap heap = Scenes.aheadOfTheSweep(2, 3, 1, "new 0;new 1;see 1;drop 0;", 2);
        Check.script(heap, 2, "see 0;go 0;");
        heap.does(9);
        String before = Told.ofHeap(heap);
        for (int n = 0; n <= 3; n++) {
            for (int what = 0; what <= n; what++) {
                heap.worst(n, what);
            }
        }
        Check.sameText("nothing of it stays", Told.ofHeap(heap), before);
        Check.same("how many can be LOST", heap.worst(3, 0), 2);
        Scenes.goes(heap, "00");
        Check.same("LOST by now", heap.worst(0, 0), 2);
        Check.same("one may be let go, or not", heap.worst(3, 0), 2);
        Scenes.goes(heap, "11");
        Check.same("1 is LOST", heap.worst(0, 0), 1);
    }
}
