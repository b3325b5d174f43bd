/** Promises 18 to 24: colour, serial, reached, lost, harm, seen, worst. */
public final class ReachPromisesTest {
    private static final int[] FAR = {-1, 99, Integer.MAX_VALUE, Integer.MIN_VALUE};

    public static void main(String[] args) {
        coloursAndSerials();
        reachedThroughFieldsAndWrites();
        reachedThroughMarks();
        lossWithoutDeletion();
        lossOfAReusedSlot();
        harmWithoutBarriers();
        seenKeepsThirtyTwo();
        worstLooksAhead();
        worstIsTheLeastRow();
        worstMayNeedACommit();
        worstIsOfNow();
        nothingIsLostWithAll();
        Check.end();
    }

    private static void coloursAndSerials() {
        StoreBufferHeap heap = new StoreBufferHeap();
        heap.heap(1, 1, 4, 1);
        Check.script(heap, 1, "new 0;new 1;");
        Check.run(heap, "11");
        Check.same("black", heap.colour(1), 3);
        Check.same("free", heap.colour(2), 0);
        Check.same("serial", heap.serial(1), 1);
        Check.same("no serial", heap.serial(2), -1);
        Check.run(heap, "0100");
        Check.same("MARK in memory counts", heap.colour(1), 3);
        Check.run(heap, "a");
        Check.same("white", heap.colour(1), 1);
        for (int far : FAR) {
            Check.same("colour of " + far, heap.colour(far), -1);
            Check.same("serial of " + far, heap.serial(far), -1);
        }
        Check.same("colour(4)", heap.colour(4), -1);
        Check.same("serial(4)", heap.serial(4), -1);
    }

    private static void reachedThroughFieldsAndWrites() {
        StoreBufferHeap heap = new StoreBufferHeap();
        heap.heap(1, 2, 5, 2);
        heap.leave(3);
        Check.script(heap, 1,
            "new 0;new 1;store 0 1 1;new 2;store 1 0 2;new 3;drop 2;drop 1;drop 3;drop 0;");
        Check.same("a chain that waits", Check.run(heap, "11111111"), 8);
        Check.same("all of it", heap.reached(), 15);
        Check.run(heap, "11");
        Check.same("through the second write", heap.reached(), 15);
        Check.run(heap, "1");
        Check.same("3 is let go", heap.reached(), 7);
        Check.run(heap, "b");
        Check.same("through 0 and a write", heap.reached(), 7);
        Check.run(heap, "1");
        Check.same("the write holds 2, not 1", heap.reached(), 4);
        Check.run(heap, "b");
        Check.same("nothing holds it", heap.reached(), 0);
        Check.same("nothing lost", heap.lost(), 0);
    }

    private static void reachedThroughMarks() {
        StoreBufferHeap heap = new StoreBufferHeap();
        heap.heap(1, 2, 3, 1);
        Check.script(heap, 1, "new 0;new 1;store 0 0 1;drop 1;store 0 0 2;drop 0;");
        Check.same("a link", Check.run(heap, "11111b1"), 7);
        Check.same("up to the scan", Check.run(heap, "0100a0100a0100a0a0100"), 21);
        Check.same("roots", Check.run(heap, "11110"), 5);
        Check.same("the field is read", Check.run(heap, "0"), 1);
        heap.leave(3);
        Check.same("cut and let go", Check.run(heap, "11b1"), 4);
        Check.same("the mark holds 1", heap.reached(), 2);
        Check.same("it goes on", Check.run(heap, "000"), 3);
        Check.same("marked, held no more", heap.reached(), 0);
        Check.same("grey", heap.colour(1), 2);
    }

    /** Roots are marked; then 1 is taken out of 0, unseen, before 0 is scanned. */
    private static StoreBufferHeap withoutDeletion() {
        StoreBufferHeap heap = new StoreBufferHeap();
        heap.heap(1, 1, 2, 1);
        heap.leave(1);
        Check.script(heap, 1, "new 0;new 1;store 0 0 1;drop 1;load 1 0 0;store 0 0 2;load 3 1 0;see 1;");
        Check.same("a link", Check.run(heap, "11111b1"), 7);
        Check.same("up to roots", Check.run(heap, "0100a0100a0100a0a0100"), 21);
        Check.same("roots", Check.run(heap, "11110"), 5);
        Check.same("taken out", Check.run(heap, "111b"), 4);
        Check.same("scan, ask for work, sweep 0", Check.run(heap, "000100a0"), 8);
        return heap;
    }

    private static void lossWithoutDeletion() {
        StoreBufferHeap heap = withoutDeletion();
        Check.same("not yet", heap.lost(), 0);
        Check.isTrue("sweep 1", heap.does(0));
        Check.same("lost", heap.lost(), 2);
        Check.same("reached all the same", heap.reached(), 3);
        Check.same("free", heap.colour(1), 0);
        Check.same("serial of the last one", heap.serial(1), 1);
        Check.same("no stray yet", heap.count(6), 0);
        Check.run(heap, "1");
        Check.same("load through it", heap.count(6), 1);
        Check.run(heap, "1");
        Check.same("see is no stray", heap.count(6), 1);
        Check.same("seen", heap.seen(1, 0), 1);
        Check.script(heap, 1, "store 1 0 1;");
        Check.run(heap, "1111111b");
        Check.same("a store counts once", heap.count(6), 2);
        Check.same("it is done all the same", heap.cell(1, 1, 0), 1);
    }

    private static void lossOfAReusedSlot() {
        StoreBufferHeap heap = withoutDeletion();
        Check.script(heap, 1, "new 2;drop 1;load 3 2 0;");
        Check.same("freed, made", Check.run(heap, "01"), 2);
        Check.same("taken", heap.serial(1), 2);
        Check.same("lost, as another object is there", heap.lost(), 2);
        Check.same("reached", heap.reached(), 3);
        Check.run(heap, "1");
        Check.same("the new one isn't lost", heap.lost(), 0);
        Check.run(heap, "1");
        Check.same("no stray", heap.count(6), 0);
    }

    private static void harmWithoutBarriers() {
        StoreBufferHeap heap = new StoreBufferHeap();
        heap.heap(1, 1, 3, 3);
        heap.leave(3);
        Check.script(heap, 1, "new 0;new 1;new 2;store 0 1 1;drop 1;load 3 0 1;store 2 2 3;");
        Check.same("0 holds 1", Check.run(heap, "11111b1"), 7);
        Check.same("none", heap.harm(), -1);
        Check.same("up to roots", Check.run(heap, "0100a0100a0100a0a0100"), 21);
        Check.same("roots 0 and 2", Check.run(heap, "11111110"), 8);
        Check.same("grey holds white", heap.harm(), -1);
        Check.same("read all, mark 1, end", Check.run(heap, "0000000"), 7);
        Check.same("black holds grey", heap.harm(), -1);
        StoreBufferHeap other = new StoreBufferHeap();
        other.heap(1, 1, 3, 3);
        other.leave(3);
        Check.script(other, 1, "new 0;new 1;new 2;store 1 1 2;drop 2;load 3 1 1;store 0 2 3;");
        Check.same("1 holds 2", Check.run(other, "11111b1"), 7);
        Check.same("up to roots", Check.run(other, "0100a0100a0100a0a0100"), 21);
        Check.same("roots 0 and 1", Check.run(other, "11111110"), 8);
        Check.same("0 is scanned", Check.run(other, "0000"), 4);
        Check.same("0 is black", other.colour(0), 3);
        Check.same("none yet", other.harm(), -1);
        Check.same("0 gets 2", Check.run(other, "111"), 3);
        Check.same("it waits", other.harm(), -1);
        other.does(9);
        Check.same("a black one holds a white one", other.harm(), 2);
        StoreBufferHeap third = new StoreBufferHeap();
        third.heap(1, 1, 3, 3);
        third.leave(3);
        Check.script(third, 1, "new 0;new 1;new 2;store 2 1 0;drop 0;load 3 2 1;store 1 2 3;");
        Check.same("2 holds 0", Check.run(third, "11111b1"), 7);
        Check.same("up to roots", Check.run(third, "0100a0100a0100a0a0100"), 21);
        Check.same("roots 1 and 2", Check.run(third, "11111110"), 8);
        Check.same("1 is scanned", Check.run(third, "0000"), 4);
        Check.same("1 gets 0", Check.run(third, "111b"), 4);
        Check.same("the first of all is white", third.colour(0), 1);
        Check.same("100 * SLOT and FIELD", third.harm(), 102);
    }

    private static void seenKeepsThirtyTwo() {
        StoreBufferHeap heap = new StoreBufferHeap();
        heap.heap(2, 1, 2, 1);
        Check.script(heap, 2, "see 0;new 0;see 0;new 1;see 1;");
        Check.run(heap, "22222");
        Check.same("NIL", heap.seen(2, 0), -1);
        Check.same("first", heap.seen(2, 1), 0);
        Check.same("second", heap.seen(2, 2), 1);
        Check.same("no third", heap.seen(2, 3), -2);
        Check.same("another's", heap.seen(1, 0), -2);
        for (int far : FAR) {
            Check.same("seen by " + far, heap.seen(far, 0), -2);
            Check.same("seen at " + far, heap.seen(2, far), -2);
        }
        Check.same("the collector's", heap.seen(0, 0), -2);
        Check.script(heap, 2, "see 0;go 0;");
        Check.run(heap, "2".repeat(58));
        Check.same("count", heap.count(12), 32);
        Check.same("all are kept", heap.seen(2, 0), -1);
        Check.run(heap, "2222");
        Check.same("count goes on", heap.count(12), 34);
        Check.same("the last 32", heap.seen(2, 0), 1);
        Check.same("the last 32", heap.seen(2, 1), 0);
        Check.same("the last 32", heap.seen(2, 31), 0);
        Check.same("no more", heap.seen(2, 32), -2);
    }

    private static void worstLooksAhead() {
        StoreBufferHeap heap = withoutDeletion();
        Check.same("worst(0, 0)", heap.worst(0, 0), 0);
        Check.same("worst(0, 1)", heap.worst(0, 1), -1);
        Check.same("worst(1, 0)", heap.worst(1, 0), 1);
        Check.same("worst(1, 1)", heap.worst(1, 1), 0);
        Check.same("worst(1, 2)", heap.worst(1, 2), -1);
        Check.same("nothing of it stays", heap.lost(), 0);
        Check.same("nothing of it stays", heap.count(5), 0);
        int steps = heap.about(0, 4);
        Check.same("worst(3, 0)", heap.worst(3, 0), 1);
        Check.same("worst(3, 4)", heap.worst(3, 4), -1);
        Check.same("worst(3, -1)", heap.worst(3, -1), -1);
        Check.same("nothing of it stays", heap.about(0, 4), steps);
        for (int n : new int[] {-1, 4, Integer.MAX_VALUE, Integer.MIN_VALUE}) {
            Check.same("worst(" + n + ")", heap.worst(n, 0), -1);
        }
        heap.does(0);
        Check.same("now it is lost", heap.worst(0, 0), 1);
        heap.again(0);
        Check.same("worst after an image that is not", heap.worst(0, 0), 1);
    }

    private static void worstIsTheLeastRow() {
        StoreBufferHeap heap = new StoreBufferHeap();
        heap.heap(1, 1, 2, 1);
        heap.leave(1);
        Check.script(heap, 1, "new 0;new 1;store 0 0 1;drop 1;load 1 0 0;store 0 0 2;see 1;");
        Check.same("a link", Check.run(heap, "11111b1"), 7);
        Check.same("up to roots", Check.run(heap, "0100a0100a0100a0a0100"), 21);
        Check.same("roots", Check.run(heap, "11110"), 5);
        Check.same("taken out", Check.run(heap, "111b"), 4);
        Check.same("scan, ask for work, PHASE sweep", Check.run(heap, "000100"), 6);
        Check.same("sweep waits", heap.write(0, 0, 3), 3);
        int[] due = {1, 0, 0, 0};
        for (int what = 0; what <= 3; what++) {
            Check.same("worst(3, " + what + ")", heap.worst(3, what), due[what]);
        }
        Check.same("two are enough", heap.worst(2, 0), 1);
        Check.same("one is not", heap.worst(1, 0), 0);
        heap.does(0);
        Check.script(heap, 1, "drop 1;see 0;");
        int[] now = {1, 0, 0, 0};
        for (int what = 0; what <= 3; what++) {
            Check.same("worst(3, " + what + ")", heap.worst(3, what), now[what]);
        }
        heap.does(1);
        Check.same("let go: none can be lost", heap.worst(3, 0), 0);
    }

    /** Without FENCES a write of COLOUR waits till the sweep, and new OBJECTS are white. */
    private static StoreBufferHeap colourWaits() {
        StoreBufferHeap heap = new StoreBufferHeap();
        heap.leave(4);
        Check.same("up to roots", Check.run(heap, "0100 010a0 010a0 a0 010 010"), 22);
        Check.same("COLOUR waits", heap.write(0, 0, 0), 5);
        Check.script(heap, 1, "new 0;see 0;");
        Check.same("made white", Check.run(heap, "1"), 1);
        Check.same("made white", heap.colour(0), 1);
        Check.same("no work", Check.run(heap, "010"), 3);
        Check.same("the buffer is full", heap.about(0, 3), 1);
        return heap;
    }

    private static void worstMayNeedACommit() {
        StoreBufferHeap heap = colourWaits();
        Check.same("two are too few", heap.worst(2, 0), 0);
        int[] due = {1, 8, 0, 0};
        for (int what = 0; what <= 3; what++) {
            Check.same("worst(3, " + what + ")", heap.worst(3, what), due[what]);
        }
        Check.same("the least row of two", heap.worst(2, 1), 0);
        Check.same("the least row of two", heap.worst(2, 2), 0);
    }

    /** What was found before a call that changes the HEAP is not told after it. */
    private static void worstIsOfNow() {
        StoreBufferHeap heap = colourWaits();
        Check.same("none yet", heap.worst(0, 0), 0);
        Check.same("done", Check.run(heap, "a00"), 3);
        Check.same("lost after run", heap.worst(0, 0), 1);
        heap.image(1);
        heap.heap(1, 1, 1, 1);
        Check.same("none after heap", heap.worst(0, 0), 0);
        heap.again(1);
        Check.same("lost after again", heap.worst(0, 0), 1);
        Check.script(heap, 1, "drop 0;");
        heap.does(1);
        Check.same("none after does", heap.worst(0, 0), 0);
        StoreBufferHeap other = colourWaits();
        Check.same("none yet", other.worst(0, 0), 0);
        other.fair(3);
        Check.same("lost after fair", other.worst(0, 0), 1);
    }

    /** Longer rows than the other runs, with nothing left away. */
    private static void nothingIsLostWithAll() {
        java.util.Random random = new java.util.Random(7);
        for (int i = 0; i < 400; i++) {
            StoreBufferHeap heap = new StoreBufferHeap();
            int mutators = 1 + random.nextInt(3);
            int fields = 1 + random.nextInt(3);
            heap.heap(mutators, 1 + random.nextInt(4), 3 + random.nextInt(6), fields);
            for (int m = 1; m <= mutators; m++) {
                Check.script(heap, m, ScriptMaker.script(random, fields));
            }
            for (int k = 0; k < 60; k++) {
                StringBuilder schedule = new StringBuilder();
                for (int j = 0; j < 100; j++) {
                    schedule.append("0123abcd0123".charAt(random.nextInt(12)));
                }
                Check.run(heap, schedule.toString());
                Check.same("lost with all barriers", heap.lost(), 0);
                Check.same("stray with all barriers", heap.count(6), 0);
            }
        }
    }
}
