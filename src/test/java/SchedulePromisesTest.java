/** Promises 8 to 10 and 17: does, run, fair, about; and the COLLECTOR's ROUND of Term 3. */
public final class SchedulePromisesTest {
    public static void main(String[] args) {
        doesWhatThereIs();
        runPassesOver();
        fairCounts();
        linesOneByOne();
        aWholeRound();
        answersComeBetweenLines();
        answersAreDrained();
        rootsAndWork();
        aboutWhatThereIsNot();
        Check.end();
    }

    private static void doesWhatThereIs() {
        StoreBufferHeap heap = new StoreBufferHeap();
        heap.heap(2, 1, 2, 1);
        for (int entry : new int[] {-1, 3, 4, 7, 8, 9, 10, 11, 12, 99, Integer.MAX_VALUE,
            Integer.MIN_VALUE}) {
            Check.isFalse("does(" + entry + ")", heap.does(entry));
        }
        Check.isFalse("behind the last line", heap.does(1));
        Check.isTrue("does(0)", heap.does(0));
        Check.isTrue("an answer is a step", heap.does(1));
        Check.isFalse("one has not answered", heap.does(0));
        Check.isTrue("does(2)", heap.does(2));
        Check.isTrue("goes on", heap.does(0));
        Check.isTrue("writes MARK", heap.does(0));
        Check.isFalse("not drained", heap.does(0));
        Check.isTrue("does(8)", heap.does(8));
        Check.isFalse("does(8) again", heap.does(8));
        Check.isTrue("drained", heap.does(0));
        Check.same("steps", heap.about(0, 4), 4);
        Check.same("steps", heap.about(2, 4), 1);
    }

    private static void runPassesOver() {
        StoreBufferHeap heap = new StoreBufferHeap();
        heap.heap(3, 2, 2, 1);
        Check.script(heap, 3, "new 0;store 0 0 0;");
        Check.same("run", Check.run(heap, "3 x3\n3A3\u00004d3Zd"), 5);
        Check.same("committed", heap.cell(1, 0, 0), 0);
        Check.same("empty run", heap.run(), 0);
        heap.heap(1, 1, 1, 1);
        Check.same("of no thread", Check.run(heap, "23cd45ef89"), 0);
    }

    private static void fairCounts() {
        StoreBufferHeap heap = new StoreBufferHeap();
        for (int n : new int[] {-1, 201, Integer.MAX_VALUE, Integer.MIN_VALUE}) {
            Check.same("fair(" + n + ")", heap.fair(n), -1);
        }
        Check.same("fair(0)", heap.fair(0), 0);
        Check.same("ask, answer", heap.fair(1), 2);
        Check.same("go on", heap.fair(1), 1);
        Check.same("write and commit", heap.fair(1), 2);
        Check.isTrue("fair(200)", heap.fair(200) > 200);
        StoreBufferHeap other = new StoreBufferHeap();
        Check.script(other, 1, "new 0;store 0 0 0;drop 0;");
        Check.same("steps first, then commits", other.fair(1), 2);
        Check.same("asked ahead of line 0", other.count(4), 0);
    }

    private static void linesOneByOne() {
        StoreBufferHeap heap = new StoreBufferHeap();
        heap.heap(1, 2, 2, 2);
        Check.script(heap, 1,
            "new 0;copy 1 0;store 0 1 1;load 2 0 1;store 3 0 0;load 2 3 0;see 2;go 9;drop 0;");
        int[] lines = {1, 2, 2, 2, 2 + 1, 4, 5, 6, 7, 9};
        Check.same("line", heap.about(1, 0), 0);
        for (int i = 0; i < lines.length; i++) {
            Check.same("not blocked " + i, heap.about(1, 3), 0);
            Check.isTrue("step " + i, heap.does(1));
            Check.same("line after step " + i, heap.about(1, 0), lines[i]);
            Check.same("between after step " + i, heap.about(1, 1), i == 2 || i == 3 ? 0 : 1);
            Check.same("steps", heap.about(1, 4), i + 1);
        }
        Check.same("behind the last line", heap.about(1, 3), 1);
        Check.isFalse("behind the last line", heap.does(1));
        Check.same("NIL was loaded through NIL", heap.seen(1, 0), -1);
        Check.same("r is what was not dropped", heap.root(1, 0, false), 0);
        Check.script(heap, 1, "new 0;new 1;");
        Check.isTrue("a slot is free", heap.does(1));
        Check.same("blocked", heap.about(1, 3), 1);
        Check.isFalse("none is free", heap.does(1));
        Check.same("line", heap.about(1, 0), 1);
        Check.script(heap, 1, "go 20;");
        heap.does(1);
        Check.same("a line that there is not", heap.about(1, 0), 1);
    }

    private static void expect(StoreBufferHeap heap, String schedule, int phase, int mark, int colour) {
        Check.same("run of " + schedule, Check.run(heap, schedule), schedule.length());
        Check.same("PHASE after " + schedule, heap.cell(3, 9, 9), phase);
        Check.same("MARK after " + schedule, heap.cell(4, -1, 0), mark);
        Check.same("COLOUR after " + schedule, heap.cell(5, 0, -1), colour);
    }

    private static void aWholeRound() {
        StoreBufferHeap heap = new StoreBufferHeap();
        heap.heap(1, 1, 3, 1);
        Check.script(heap, 1, "new 0;new 1;store 0 0 1;new 1;drop 1;");
        Check.same("setup", Check.run(heap, "111111b1"), 8);
        Check.same("all taken", heap.count(7), 0);
        expect(heap, "0100a", 0, 1, 0);
        expect(heap, "0100a", 1, 1, 0);
        expect(heap, "0100a0a", 2, 1, 1);
        expect(heap, "010", 2, 1, 1);
        Check.same("white", heap.colour(0), 1);
        expect(heap, "0111", 2, 1, 1);
        Check.same("grey, of the mutator", heap.work(1), 1);
        Check.same("grey", heap.colour(0), 2);
        expect(heap, "10", 2, 1, 1);
        Check.same("handed over", heap.work(0), 1);
        Check.same("handed over", heap.work(1), 0);
        expect(heap, "0000", 2, 1, 1);
        Check.same("both grey", heap.work(0), 3);
        expect(heap, "0", 2, 1, 1);
        Check.same("scanned", heap.work(0), 2);
        Check.same("black", heap.colour(0), 3);
        expect(heap, "00", 2, 1, 1);
        Check.same("no work", heap.work(0), 0);
        expect(heap, "010", 2, 1, 1);
        expect(heap, "0a", 3, 1, 1);
        expect(heap, "00", 3, 1, 1);
        Check.same("nothing freed yet", heap.count(5), 0);
        expect(heap, "0", 3, 1, 1);
        Check.same("freed", heap.count(5), 1);
        Check.same("free", heap.colour(2), 0);
        Check.same("rounds", heap.about(0, 0), 0);
        expect(heap, "0", 3, 1, 1);
        Check.same("rounds", heap.about(0, 0), 1);
        expect(heap, "a", 0, 1, 1);
        expect(heap, "0100a", 0, 0, 1);
    }

    private static void answersComeBetweenLines() {
        StoreBufferHeap heap = new StoreBufferHeap();
        heap.heap(1, 1, 2, 1);
        Check.script(heap, 1, "new 0;store 0 0 0;see 0;");
        Check.run(heap, "11");
        Check.same("in a store", heap.about(1, 1), 0);
        Check.isTrue("ask", heap.does(0));
        Check.same("asked", heap.about(1, 2), 1);
        Check.same("one has not answered", heap.about(0, 2), 1);
        Check.isTrue("marks s", heap.does(1));
        Check.isTrue("writes", heap.does(1));
        Check.same("not answered", heap.about(1, 2), 1);
        Check.same("blocked till it is drained", heap.about(1, 3), 1);
        Check.isFalse("blocked", heap.does(1));
        Check.isTrue("commit", heap.does(9));
        Check.isTrue("answers", heap.does(1));
        Check.same("answered", heap.about(1, 2), 0);
        Check.same("ahead of the next line", heap.count(11), 0);
        Check.isTrue("sees", heap.does(1));
        Check.same("seen", heap.count(11), 1);
    }

    private static void answersAreDrained() {
        StoreBufferHeap heap = new StoreBufferHeap();
        heap.heap(1, 2, 2, 1);
        Check.script(heap, 1, "new 0;store 0 0 0;");
        Check.same("a write waits", Check.run(heap, "11110"), 5);
        Check.same("waits", heap.waits(1), 1);
        Check.isFalse("blocked", heap.does(1));
        heap.leave(4);
        Check.same("without fences", heap.about(1, 3), 0);
        Check.isTrue("without fences", heap.does(1));
        Check.same("it still waits", heap.waits(1), 1);
        Check.same("flip, ask undrained", Check.run(heap, "000"), 3);
        heap.leave(0);
        Check.isFalse("fences are back", heap.does(1));
        Check.same("exchange is drained always", exchangeUndrained(), 0);
    }

    /** With FENCES left away the last STEP of a mark still needs an empty BUFFER. */
    private static int exchangeUndrained() {
        StoreBufferHeap heap = new StoreBufferHeap();
        heap.heap(1, 2, 2, 2);
        Check.script(heap, 1, "new 0;store 0 0 0;store 0 1 0;");
        heap.leave(4);
        Check.same("up to init", Check.run(heap, "10100a0100a"), 11);
        Check.same("up to a write", Check.run(heap, "1111"), 4);
        Check.same("marked", heap.work(1), 1);
        heap.heap(1, 2, 2, 2);
        heap.leave(4);
        Check.script(heap, 1, "new 0;store 0 0 1;store 0 1 0;");
        Check.same("up to a write", Check.run(heap, "111"), 3);
        Check.same("up to init", Check.run(heap, "0100a0100a"), 10);
        Check.same("reads field, flag, phase", Check.run(heap, "111"), 3);
        Check.same("a write waits", heap.waits(1), 1);
        Check.same("blocked", heap.about(1, 3), 1);
        int undrained = heap.does(1) ? 1 : 0;
        Check.same("commit, exchange", Check.run(heap, "b1"), 2);
        Check.same("marked", heap.work(1), 1);
        return undrained;
    }

    private static void rootsAndWork() {
        StoreBufferHeap heap = new StoreBufferHeap();
        heap.heap(2, 1, 4, 1);
        Check.script(heap, 1, "new 0;new 3;");
        Check.script(heap, 2, "new 1;");
        Check.same("setup", Check.run(heap, "112"), 3);
        Check.same("up to roots", Check.run(heap, "01200a01200a01200a0a01200"), 25);
        Check.same("of both", heap.about(0, 2), 2);
        Check.same("roots of 1", Check.run(heap, "111111"), 6);
        Check.same("marked", heap.work(1), 3);
        Check.same("not handed over", heap.about(1, 2), 1);
        Check.same("roots of 2, handed over", Check.run(heap, "22221"), 5);
        Check.same("all work", heap.work(0), 7);
        Check.same("on", Check.run(heap, "0000000"), 7);
        Check.same("scanned all", heap.work(0), 0);
        Check.same("work asked for", Check.run(heap, "012"), 3);
        Check.same("none", heap.about(0, 2), 0);
    }

    private static void aboutWhatThereIsNot() {
        StoreBufferHeap heap = new StoreBufferHeap();
        for (int what = -1; what <= 5; what++) {
            Check.same("about(-1, " + what + ")", heap.about(-1, what), -1);
            Check.same("about(2, " + what + ")", heap.about(2, what), -1);
        }
        for (int what : new int[] {-1, 5, Integer.MAX_VALUE, Integer.MIN_VALUE}) {
            Check.same("about(0, " + what + ")", heap.about(0, what), -1);
            Check.same("about(1, " + what + ")", heap.about(1, what), -1);
        }
        Check.same("the collector is never between", heap.about(0, 1), 0);
    }
}
