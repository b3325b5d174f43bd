/** Promises 4 to 7: the tape, scripts and their FAULTS (and those of trials, promise 25). */
public final class TextPromisesTest {
    public static void main(String[] args) {
        feedPutsTheHighestFirst();
        tapeHasRoomFor400();
        endCuts();
        scriptsAreTaken();
        scriptsAreRefused();
        scriptFaults();
        firstFaultCounts();
        trialFaults();
        faultIsOfTheLatest();
        Check.end();
    }

    private static void feedPutsTheHighestFirst() {
        StoreBufferHeap heap = new StoreBufferHeap();
        int blanks = 0x20202020;
        Check.same("feed", heap.feed(0x6E657720, 0x303B0A20, blanks, blanks, 0x0A0A0A20), 20);
        Check.same("script 'new 0;' and blanks", heap.script(1), 1);
        Check.same("feed", heap.feed(0xFF303030, 0, 0, 0, 0), 20);
        Check.same("script of bytes above 127", heap.script(1), -1);
        Check.same("place", heap.fault(1), 0);
    }

    private static void tapeHasRoomFor400() {
        StoreBufferHeap heap = new StoreBufferHeap();
        for (int i = 1; i <= 20; i++) {
            Check.same("feed " + i, heap.feed(0, 0, 0, 0, 0), 20 * i);
        }
        Check.same("feed beyond 400", heap.feed(0, 0, 0, 0, 0), -1);
        Check.same("all 400 are there", heap.end(400), 400);
        Check.same("end(381)", heap.end(381), 381);
        Check.same("401 would be too many", heap.feed(0, 0, 0, 0, 0), -1);
        Check.same("nothing came", heap.end(382), -1);
        Check.same("end(380)", heap.end(380), 380);
        Check.same("400 are not", heap.feed(0, 0, 0, 0, 0), 400);
    }

    private static void endCuts() {
        StoreBufferHeap heap = new StoreBufferHeap();
        Check.same("end(0)", heap.end(0), 0);
        Check.same("end(1)", heap.end(1), -1);
        heap.feed(0x30303030, 0x30303030, 0, 0, 0);
        Check.same("end(-1)", heap.end(-1), -1);
        Check.same("end(21)", heap.end(21), -1);
        Check.same("end(least)", heap.end(Integer.MIN_VALUE), -1);
        Check.same("end(most)", heap.end(Integer.MAX_VALUE), -1);
        Check.same("end(20)", heap.end(20), 20);
        Check.same("end(1)", heap.end(1), 1);
        Check.same("one entry is left", heap.run(), 1);
        Check.same("run takes the tape", heap.end(1), -1);
    }

    private static void scriptsAreTaken() {
        StoreBufferHeap heap = new StoreBufferHeap();
        heap.heap(2, 1, 4, 3);
        Check.same("empty script", Check.script(heap, 1, ""), 0);
        Check.same("fault", heap.fault(0), 0);
        Check.same("blanks alone", Check.script(heap, 1, " \n "), 0);
        Check.same("tape is empty then", heap.end(1), -1);
        Check.same("every line",
            Check.script(heap, 2, "new 0;drop 1;see 2;copy 3 0;load 1 2 2;store 3 1 0;go 20;"), 7);
        Check.same("no blanks", Check.script(heap, 2, "new0;copy3 0;load 1 2 2;go05;"), 4);
        Check.same("many blanks", Check.script(heap, 2, "  new \n 0 \n; go\n20 ;"), 2);
        Check.same("twenty lines", Check.script(heap, 2, "see 0;".repeat(20)), 20);
        Check.run(heap, "22222");
        Check.same("line", heap.about(2, 0), 5);
        Check.same("a new script", Check.script(heap, 2, "see 0;see 1;"), 2);
        Check.same("ahead of line 0", heap.about(2, 0), 0);
        Check.same("registers stay", Check.script(heap, 2, "new 3;"), 1);
        heap.does(2);
        Check.script(heap, 2, "");
        Check.same("registers stay", heap.root(2, 3, false), 0);
    }

    private static void scriptsAreRefused() {
        StoreBufferHeap heap = new StoreBufferHeap();
        heap.heap(2, 1, 4, 1);
        for (int mutator : new int[] {0, -1, 3, Integer.MAX_VALUE, Integer.MIN_VALUE}) {
            Check.same("script(" + mutator + ")", Check.script(heap, mutator, "bad"), -2);
            Check.same("no text is read", heap.fault(0), 0);
            Check.same("no text is read", heap.fault(1), -1);
            Check.same("the tape is taken", heap.end(1), -1);
        }
        Check.script(heap, 1, "new 0;new 1;store 0 0 1;see 0;");
        Check.run(heap, "111");
        Check.same("in a store", Check.script(heap, 1, "see 0;"), -2);
        Check.same("the tape is taken", heap.end(1), -1);
        Check.run(heap, "11b");
        Check.same("behind the store", heap.about(1, 1), 1);
        Check.same("a faulty one", Check.script(heap, 1, "see 4;"), -1);
        Check.same("the old one stays", heap.about(1, 0), 3);
        Check.isTrue("the old one goes on", heap.does(1));
        Check.same("seen", heap.seen(1, 0), 0);
        Check.run(heap, "012a 00a 012 00a 012 00a 0a 012 0 0");
        Check.same("asked for roots", heap.about(1, 2), 1);
        Check.same("not yet answering", heap.about(1, 1), 1);
        heap.does(1);
        Check.same("answering", heap.about(1, 1), 0);
        Check.same("answering", Check.script(heap, 1, "see 0;"), -2);
        Check.run(heap, "1111111");
        Check.same("answered", heap.about(1, 2), 0);
        Check.same("answered", Check.script(heap, 1, "see 0;"), 1);
    }

    private static void faultOf(StoreBufferHeap heap, String text, int fault, int place) {
        boolean trial = text.startsWith("trial:");
        String read = trial ? text.substring(6) : text;
        int got = trial ? Check.trial(heap, read) : Check.script(heap, 1, read);
        Check.isTrue("'" + text + "' has " + got, fault == 0 ? got >= 0 : got == -1);
        Check.same("fault(0) of '" + text + "'", heap.fault(0), fault);
        Check.same("fault(1) of '" + text + "'", heap.fault(1), place);
    }

    private static void scriptFaults() {
        StoreBufferHeap heap = new StoreBufferHeap();
        heap.heap(1, 1, 1, 2);
        faultOf(heap, "new", 1, 3);
        faultOf(heap, "new  ", 1, 5);
        faultOf(heap, "new 0", 1, 5);
        faultOf(heap, "news 0;", 1, 0);
        faultOf(heap, "ne w 0;", 1, 0);
        faultOf(heap, "New 0;", 1, 0);
        faultOf(heap, "newX", 1, 3);
        faultOf(heap, "new 0;;", 1, 6);
        faultOf(heap, "new 0;0", 1, 6);
        faultOf(heap, "new 000;", 1, 4);
        faultOf(heap, "new -1;", 1, 4);
        faultOf(heap, "new\t0;", 1, 3);
        faultOf(heap, "new 0 0;", 1, 6);
        faultOf(heap, "copy 01;", 1, 7);
        faultOf(heap, "go l;", 1, 3);
        faultOf(heap, "party;", 1, 0);
        faultOf(heap, "new 04;", 2, 4);
        faultOf(heap, "new 03;", 0, -1);
        faultOf(heap, "drop 99;", 2, 5);
        faultOf(heap, "see 4;", 2, 4);
        faultOf(heap, "copy 3 4;", 2, 7);
        faultOf(heap, "load 3 3 1;", 0, -1);
        faultOf(heap, "load 3 3 2;", 2, 9);
        faultOf(heap, "load 3 4 2;", 2, 7);
        faultOf(heap, "store 3 1 3;", 0, -1);
        faultOf(heap, "store 3 2 3;", 2, 8);
        faultOf(heap, "store 0 0 4;", 2, 10);
        faultOf(heap, "go 20;", 0, -1);
        faultOf(heap, "go 21;", 2, 3);
        faultOf(heap, "new 0;".repeat(21), 3, 120);
        faultOf(heap, "go0;".repeat(100), 3, 80);
    }

    private static void firstFaultCounts() {
        StoreBufferHeap heap = new StoreBufferHeap();
        faultOf(heap, "new 9;new 8;", 2, 4);
        faultOf(heap, "new 9;new 0", 1, 11);
        faultOf(heap, "new 9;new ?", 1, 10);
        faultOf(heap, "new 9;" + "new 0;".repeat(20), 2, 4);
        faultOf(heap, "new 0;".repeat(20) + "new 9;", 3, 120);
        faultOf(heap, "new 0;".repeat(20) + "?", 1, 120);
        faultOf(heap, "new 0;".repeat(21) + "new", 1, 129);
    }

    private static void trialFaults() {
        StoreBufferHeap heap = new StoreBufferHeap();
        faultOf(heap, "trial:", 1, 0);
        faultOf(heap, "trial:  ", 1, 2);
        faultOf(heap, "trial:fence;", 1, 0);
        faultOf(heap, "trial: party", 1, 6);
        faultOf(heap, "trial:party;parties;", 1, 6);
        faultOf(heap, "trial:party;new 0;", 1, 6);
        faultOf(heap, "trial:party;put 0;", 1, 11);
        faultOf(heap, "trial:party;put 2 3;get 1 2;swap 2 3 1;fence;", 0, -1);
        faultOf(heap, "trial:party;put 3 0;", 2, 10);
        faultOf(heap, "trial:party;put 0 4;", 2, 12);
        faultOf(heap, "trial:party;get 2 0;", 2, 10);
        faultOf(heap, "trial:party;get 0 3;", 2, 12);
        faultOf(heap, "trial:party;swap 3 0 0;", 2, 11);
        faultOf(heap, "trial:party;swap 0 4 0;", 2, 13);
        faultOf(heap, "trial:party;swap 0 0 2;", 2, 15);
        faultOf(heap, "trial:party;party;party;", 0, -1);
        faultOf(heap, "trial:party;party;party;party;", 3, 18);
        faultOf(heap, "trial:party;" + "fence;".repeat(4), 0, -1);
        faultOf(heap, "trial:party;" + "fence;".repeat(5), 3, 30);
        String four = "party;" + "fence;".repeat(4);
        faultOf(heap, "trial:" + four + four + "party;fence;", 0, -1);
        faultOf(heap, "trial:" + four + four + "party;fence;fence;", 3, 72);
        faultOf(heap, "trial:party;get 9 9;" + four + four + four, 2, 10);
        faultOf(heap, "trial:party;party;party;party;get 9 9;", 3, 18);
        faultOf(heap, "trial:party;party;party;party;get 9 9", 1, 31);
    }

    private static void faultIsOfTheLatest() {
        StoreBufferHeap heap = new StoreBufferHeap();
        faultOf(heap, "new 4;", 2, 4);
        Check.run(heap, "0");
        Check.same("run says nothing of it", heap.fault(0), 2);
        faultOf(heap, "trial:party;", 0, -1);
        for (int what : new int[] {-1, 2, Integer.MAX_VALUE, Integer.MIN_VALUE}) {
            Check.same("fault(" + what + ")", heap.fault(what), -1);
        }
    }
}
