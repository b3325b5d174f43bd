/** Promises 1 to 3 and 29 to 31: new objects, heap, leave, count, image, again. */
public final class HeapPromisesTest {
    public static void main(String[] args) {
        newObject();
        heapTakesOnlyWhatFits();
        heapIsAnew();
        heapLeavesTextsAndImages();
        leaveTakesBits();
        counts();
        imagesHoldAll();
        imagesOfTrials();
        Check.end();
    }

    private static void newObject() {
        StoreBufferHeap heap = new StoreBufferHeap();
        Check.same("NONE", StoreBufferHeap.NONE, -1);
        int[] counts = {1, 1, 1, 1, 0, 0, 0, 1, 0, -2, -2, 0, -2};
        for (int what = 0; what < counts.length; what++) {
            Check.same("new count(" + what + ")", heap.count(what), counts[what]);
        }
        for (int k = -1; k <= 3; k++) {
            Check.isFalse("new again(" + k + ")", heap.again(k));
        }
        Check.same("new states", heap.states(false), 0);
        Check.same("new fault(0)", heap.fault(0), 0);
        Check.same("new fault(1)", heap.fault(1), -1);
        Check.same("new cell of FLAG", heap.cell(0, 0, 0), 0);
        Check.same("new cell of FIELD", heap.cell(1, 0, 0), -2);
        for (int sort = 3; sort <= 5; sort++) {
            Check.same("new cell " + sort, heap.cell(sort, 0, 0), 0);
        }
        Check.same("new waits", heap.waits(0), 0);
        Check.same("new tape", heap.end(1), -1);
        Check.same("new mutator is between", heap.about(1, 1), 1);
        Check.same("new mutator is blocked", heap.about(1, 3), 1);
        Check.same("new collector is not", heap.about(0, 3), 0);
    }

    private static void heapTakesOnlyWhatFits() {
        StoreBufferHeap heap = new StoreBufferHeap();
        int[] most = {3, 4, 8, 3};
        for (int i = 0; i < 4; i++) {
            for (int number : new int[] {Integer.MIN_VALUE, -1, 0, most[i] + 1, Integer.MAX_VALUE}) {
                int[] n = {1, 1, 1, 1};
                n[i] = number;
                Check.isFalse("heap with " + number + " at " + i, heap.heap(n[0], n[1], n[2], n[3]));
            }
            int[] n = {1, 1, 1, 1};
            n[i] = most[i];
            Check.isTrue("heap with the most at " + i, heap.heap(n[0], n[1], n[2], n[3]));
            Check.same("count", heap.count(i), most[i]);
        }
        Check.script(heap, 1, "new 0;");
        heap.does(1);
        Check.isFalse("heap(4, 1, 1, 1)", heap.heap(4, 1, 1, 1));
        Check.same("nothing changed", heap.count(4), 1);
        Check.same("nothing changed", heap.root(1, 0, false), 0);
    }

    private static void heapIsAnew() {
        StoreBufferHeap heap = new StoreBufferHeap();
        heap.heap(2, 2, 4, 2);
        Check.script(heap, 1, "new 0;new 1;store 0 1 1;see 1;");
        heap.leave(5);
        heap.fair(3);
        Check.isTrue("heap", heap.heap(2, 3, 4, 2));
        Check.same("script is gone", heap.about(1, 3), 1);
        Check.same("script is gone", heap.about(1, 0), 0);
        Check.same("nothing is left away", heap.count(8), 0);
        Check.same("no objects", heap.count(4), 0);
        Check.same("no objects", heap.serial(0), -1);
        Check.same("roots are NIL", heap.root(1, 0, true), -2);
        Check.same("fields are NIL", heap.cell(1, 0, 1), -2);
        Check.same("mark is 0", heap.cell(4, 0, 0), 0);
        Check.same("buffers are empty", heap.waits(1), 0);
        Check.same("nothing seen", heap.count(11), 0);
        Check.same("no steps", heap.about(0, 4), 0);
        Check.same("nobody is asked", heap.about(0, 2), 0);
        Check.same("all free", heap.count(7), 4);
    }

    private static void heapLeavesTextsAndImages() {
        StoreBufferHeap heap = new StoreBufferHeap();
        Check.trial(heap, "party;");
        Check.trial(heap, "party;nonsense;");
        heap.image(2);
        Check.tape(heap, "0a0a0");
        heap.heap(3, 1, 1, 1);
        Check.same("trial stays", heap.states(false), 1);
        Check.same("fault stays", heap.fault(0), 1);
        Check.same("place stays", heap.fault(1), 6);
        Check.same("tape stays", heap.end(5), 5);
        Check.isTrue("image stays", heap.again(2));
        Check.same("as the image has it", heap.count(0), 1);
    }

    private static void leaveTakesBits() {
        StoreBufferHeap heap = new StoreBufferHeap();
        for (int bits = 0; bits < 8; bits++) {
            Check.isTrue("leave(" + bits + ")", heap.leave(bits));
            Check.same("count(8)", heap.count(8), bits);
        }
        for (int bits : new int[] {-1, 8, Integer.MAX_VALUE, Integer.MIN_VALUE}) {
            Check.isFalse("leave(" + bits + ")", heap.leave(bits));
            Check.same("count(8)", heap.count(8), 7);
        }
        Check.same("store with both barriers", stepsOfAStore(0), 4);
        Check.same("store without DELETION", stepsOfAStore(1), 3);
        Check.same("store without INSERTION", stepsOfAStore(2), 3);
        Check.same("store without both", stepsOfAStore(3), 2);
        Check.same("ask with fences", asksUndrained(0), 0);
        Check.same("ask without fences", asksUndrained(4), 1);
    }

    /** Of a store over an OBJECT: the barriers find FLAG and MARK alike, one STEP each. */
    private static int stepsOfAStore(int left) {
        StoreBufferHeap heap = new StoreBufferHeap();
        heap.heap(1, 1, 2, 1);
        Check.script(heap, 1, "new 0;new 1;store 0 0 1;store 0 0 1;");
        Check.run(heap, "11");
        heap.leave(3);
        Check.run(heap, "11b");
        Check.same("the first store is done", heap.cell(1, 0, 0), 1);
        heap.leave(left);
        int before = heap.about(1, 4);
        Check.run(heap, "111111");
        Check.same("the second store is done", heap.waits(1), 1);
        return heap.about(1, 4) - before;
    }

    private static int asksUndrained(int left) {
        StoreBufferHeap heap = new StoreBufferHeap();
        heap.leave(left);
        Check.same("up to the flip", Check.run(heap, "0100"), 4);
        Check.same("MARK waits", heap.write(0, 0, 0), 4);
        return heap.does(0) ? 1 : 0;
    }

    private static void counts() {
        StoreBufferHeap heap = new StoreBufferHeap();
        heap.heap(2, 3, 5, 2);
        Check.script(heap, 2, "new 0;new 1;see 0;see 1;see 2;");
        Check.run(heap, "22222");
        int[] due = {2, 3, 5, 2, 2, 0, 0, 3, 0, -2, -2, 0, 3, -2, -2};
        for (int what = 0; what < due.length; what++) {
            Check.same("count(" + what + ")", heap.count(what), due[what]);
        }
        Check.same("count(-1)", heap.count(-1), -2);
        Check.same("count of all", heap.count(Integer.MAX_VALUE), -2);
        Check.same("count of all", heap.count(Integer.MIN_VALUE), -2);
    }

    private static void imagesHoldAll() {
        StoreBufferHeap heap = new StoreBufferHeap();
        heap.heap(1, 2, 3, 1);
        Check.script(heap, 1, "new 0;new 1;store 0 0 1;see 1;drop 1;go 0;");
        Check.run(heap, "1111");
        Check.script(heap, 1, "new 9;");
        heap.leave(2);
        Check.trial(heap, "party;put 0 4;");
        Check.tape(heap, "1110");
        Check.isTrue("image(1)", heap.image(1));
        Check.same("run", heap.run(), 4);
        heap.leave(0);
        Check.trial(heap, "party;party;");
        heap.fair(20);
        Check.isTrue("image(0)", heap.image(0));
        int steps = heap.about(0, 4);
        Check.isTrue("again(1)", heap.again(1));
        Check.same("count(8)", heap.count(8), 2);
        Check.same("fault(0)", heap.fault(0), 2);
        Check.same("fault(1)", heap.fault(1), 12);
        Check.same("states", heap.states(true), 0);
        Check.same("steps", heap.about(1, 4), 4);
        Check.same("in a store", heap.about(1, 1), 0);
        Check.same("nothing seen", heap.count(11), 0);
        Check.same("the tape too", heap.run(), 4);
        Check.isTrue("again(0)", heap.again(0));
        Check.same("the other stays", heap.about(0, 4), steps);
        Check.isTrue("again(1)", heap.again(1));
        Check.same("it can be taken again", heap.run(), 4);
        for (int k : new int[] {-1, 3, Integer.MAX_VALUE, Integer.MIN_VALUE}) {
            Check.isFalse("image(" + k + ")", heap.image(k));
            Check.isFalse("again(" + k + ")", heap.again(k));
        }
        Check.isFalse("again(2)", heap.again(2));
    }

    private static void imagesOfTrials() {
        StoreBufferHeap heap = new StoreBufferHeap();
        heap.image(0);
        Check.trial(heap, "party;put 0 1;party;get 0 0;");
        heap.image(1);
        int states = heap.states(false);
        Check.trial(heap, "party;fence;");
        Check.same("the new trial", heap.states(false), 2);
        heap.again(1);
        Check.same("the old trial", heap.states(false), states);
        heap.again(0);
        Check.same("no trial", heap.outcomes(0), -1);
    }
}
