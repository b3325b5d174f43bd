/** Promises 25 to 28: trial, states, outcomes, outcome, on trials that are known by name. */
public final class TrialPromisesTest {
    public static void main(String[] args) {
        withoutATrial();
        trialsAreTaken();
        storeBuffering();
        messagePassing();
        loadBuffering();
        ownWritesAreReadEarly();
        twoWritesWait();
        swaps();
        fences();
        orderOfOutcomes();
        independentReads();
        Check.end();
    }

    private static void withoutATrial() {
        StoreBufferHeap heap = new StoreBufferHeap();
        Check.same("states", heap.states(true), 0);
        Check.same("states", heap.states(false), 0);
        for (int sort = -1; sort <= 3; sort++) {
            Check.same("outcomes", heap.outcomes(sort), -1);
            Check.same("outcome", heap.outcome(sort, 0), -1);
        }
    }

    private static void trialsAreTaken() {
        StoreBufferHeap heap = new StoreBufferHeap();
        Check.same("one party", Check.trial(heap, "party;"), 1);
        Check.same("the tape is taken", heap.end(1), -1);
        Check.same("one state", heap.states(false), 1);
        Check.same("one state", heap.states(true), 1);
        Check.same("one outcome", heap.outcomes(0), 1);
        Check.same("all 0", heap.outcome(0, 0), 0);
        Check.same("three parties", Check.trial(heap, "party;fence;party;fence;party;"), 3);
        Check.same("states", heap.states(false), 4);
        Check.same("a fault", Check.trial(heap, "party"), -1);
        Check.same("the tape is taken", heap.end(1), -1);
        Check.same("the trial stays", heap.states(false), 4);
        Check.same("the fault", heap.fault(1), 5);
        for (int sort : new int[] {-1, 3, Integer.MAX_VALUE, Integer.MIN_VALUE}) {
            Check.same("outcomes(" + sort + ")", heap.outcomes(sort), -1);
            Check.same("outcome(" + sort + ")", heap.outcome(sort, 0), -1);
        }
        for (int k : new int[] {-1, 1, Integer.MAX_VALUE, Integer.MIN_VALUE}) {
            Check.same("outcome(0, " + k + ")", heap.outcome(0, k), -1);
        }
    }

    private static void outcomesAre(String text, int sort, int... due) {
        StoreBufferHeap heap = new StoreBufferHeap();
        Check.isTrue("trial '" + text + "'", Check.trial(heap, text) > 0);
        Check.same("outcomes(" + sort + ") of '" + text + "'", heap.outcomes(sort), due.length);
        for (int k = 0; k < due.length; k++) {
            Check.same("outcome(" + sort + ", " + k + ") of '" + text + "'",
                heap.outcome(sort, k), due[k]);
        }
        Check.same("no more of '" + text + "'", heap.outcome(sort, due.length), -1);
        Check.trial(heap, text);
        Check.same("asked at once", heap.outcome(sort, 0), due.length == 0 ? -1 : due[0]);
    }

    private static void storeBuffering() {
        String text = "party;put 0 1;get 0 1;party;put 1 1;get 0 0;";
        outcomesAre(text, 0, 0, 4, 64, 68);
        outcomesAre(text, 1, 4, 64, 68);
        outcomesAre(text, 2, 0);
        String fenced = "party;put 0 1;fence;get 0 1;party;put 1 1;fence;get 0 0;";
        outcomesAre(fenced, 0, 4, 64, 68);
        outcomesAre(fenced, 2);
        outcomesAre("party;put 0 1;fence;get 0 1;party;put 1 1;get 0 0;", 2, 0);
    }

    private static void messagePassing() {
        String text = "party;put 0 1;put 1 1;party;get 0 1;get 1 0;";
        outcomesAre(text, 0, 0, 1, 5);
        outcomesAre(text, 2);
    }

    private static void loadBuffering() {
        String text = "party;get 0 0;put 1 1;party;get 0 1;put 0 1;";
        outcomesAre(text, 0, 0, 4, 64);
        outcomesAre(text, 2);
    }

    private static void ownWritesAreReadEarly() {
        String text = "party;put 0 1;get 0 0;get 1 1;party;put 1 2;get 0 1;get 1 0;";
        StoreBufferHeap heap = new StoreBufferHeap();
        Check.trial(heap, text);
        Check.same("weak", heap.outcomes(2), 1);
        Check.same("both read their own alone", heap.outcome(2, 0), 64 + 8);
        outcomesAre("party;put 2 1;put 2 3;get 1 2;", 0, 3);
        outcomesAre("party;put 2 1;put 0 3;get 1 2;", 0, 1);
    }

    private static void twoWritesWait() {
        StoreBufferHeap heap = new StoreBufferHeap();
        Check.trial(heap, "party;put 0 1;put 1 1;put 2 1;");
        Check.same("a third put is blocked", heap.states(false), 1 + 2 + 3 + 3);
        Check.same("strict", heap.states(true), 4);
        Check.trial(heap, "party;put 0 1;put 0 1;");
        Check.same("as many as writes wait", heap.states(false), 6);
        Check.trial(heap, "party;put 0 0;");
        Check.same("a write of 0 waits too", heap.states(false), 3);
        Check.same("strict", heap.states(true), 2);
    }

    private static void swaps() {
        String text = "party;swap 0 1 0;party;swap 0 2 1;";
        outcomesAre(text, 0, 1, 128);
        outcomesAre(text, 1, 1, 128);
        outcomesAre("party;put 0 3;swap 0 1 0;get 1 0;", 0, 13);
        outcomesAre("party;put 0 1;swap 2 1 1;get 0 1;party;put 1 1;swap 2 1 1;get 0 0;", 2);
        StoreBufferHeap heap = new StoreBufferHeap();
        Check.trial(heap, "party;put 0 3;swap 1 1 0;");
        Check.same("drained", heap.states(false), 4);
    }

    private static void fences() {
        StoreBufferHeap heap = new StoreBufferHeap();
        Check.trial(heap, "party;put 0 3;fence;");
        Check.same("drained", heap.states(false), 4);
        Check.same("strict", heap.states(true), 3);
        outcomesAre("party;fence;fence;fence;fence;", 0, 0);
    }

    private static void orderOfOutcomes() {
        outcomesAre("party;swap 0 1 0;party;party;swap 0 2 1;", 0, 1, 2048);
        outcomesAre("party;swap 0 3 0;swap 0 3 1;party;swap 0 3 0;swap 0 3 1;party;swap 0 3 0;",
            0, 4092 - 3 * 1024, 4092 - 3 * 64, 4092 - 3 * 4);
        outcomesAre("party;get 0 0;get 1 0;party;put 0 1;", 0, 0, 16, 80);
    }

    /** All parties see writes of others in one order. */
    private static void independentReads() {
        outcomesAre("party;put 0 1;put 1 1;party;get 0 0;get 1 1;party;get 0 1;get 1 0;", 2);
    }
}
