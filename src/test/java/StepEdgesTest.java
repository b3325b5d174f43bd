/** Boundary sentences of Terms 1, 2 and 4 on STEPS, COMMITS and SCHEDULES, of promises 8 to 10. */
public final class StepEdgesTest {
    private static final int[] FAR = {Integer.MIN_VALUE, -2, -1, 99, Integer.MAX_VALUE};

    public static void main(String[] args) {
        doesEntries();
        doesOfNoThread();
        commitOfNone();
        commitsAreOldestFirst();
        writesUpToFull();
        collectorWritesUpToFull();
        readsTheYoungest();
        drainedIsOfItsOwn();
        behindTheLastLine();
        newWithoutAFreeSlot();
        newTakesTheLeast();
        newIsClean();
        newLeavesOthersAlone();
        lettingGo();
        seesNil();
        copies();
        goesToLines();
        loadsThroughNil();
        storesThroughNil();
        storesStepByStep();
        nilNeedsNoMark();
        alikeNeedsOneStep();
        idleNeedsTwoSteps();
        markedByAnother();
        markedAsItWasRead();
        exchangesAreDrained();
        runOfEveryByte();
        runPassesOver();
        runTakesTheTape();
        fairNumbers();
        fairGoesByThreads();
        fairStepsThenCommits();
        Check.end();
    }

    /** It says no, and nothing changes. */
    private static void isBlocked(StoreBufferHeap heap, int entry, String why) {
        String before = Told.ofHeap(heap);
        if (entry < 8) {
            Check.same(why + ": its next STEP is BLOCKED", heap.about(entry, 3), 1);
        }
        Check.isFalse(why + ": does(" + entry + ")", heap.does(entry));
        Check.sameText(why + ": nothing changes", Told.ofHeap(heap), before);
    }

    private static void isDone(StoreBufferHeap heap, int entry, String why) {
        if (entry < 8) {
            Check.same(why + ": not BLOCKED", heap.about(entry, 3), 0);
        }
        Check.isTrue(why + ": does(" + entry + ")", heap.does(entry));
    }

    private static void doesEntries() {
        Check.sentence("8: An ENTRY: true; false: there is none such");
        for (int mutators = 1; mutators <= 3; mutators++) {
            for (int m = 1; m <= 3; m++) {
                StoreBufferHeap heap = new StoreBufferHeap();
                heap.heap(mutators, 1, 1, 1);
                Check.script(heap, m, "new 0;store 0 0 1;");
                boolean there = m <= mutators;
                Check.same("STEP of " + m, heap.does(m) ? 1 : 0, there ? 1 : 0);
                heap.does(m);
                heap.does(m);
                Check.same("COMMIT of " + m, heap.does(8 + m) ? 1 : 0, there ? 1 : 0);
            }
        }
    }

    private static void doesOfNoThread() {
        Check.sentence("Term 4: a STEP of THREAD t, t; a COMMIT of THREAD t, 8 + t");
        for (int mutators = 1; mutators <= 3; mutators++) {
            StoreBufferHeap heap = new StoreBufferHeap();
            heap.heap(mutators, 1, 1, 1);
            for (int entry = mutators + 1; entry < 8; entry++) {
                Check.isFalse("does(" + entry + ")", heap.does(entry));
            }
            for (int entry = 9 + mutators; entry < 20; entry++) {
                Check.isFalse("does(" + entry + ")", heap.does(entry));
            }
            for (int far : FAR) {
                Check.isFalse("does(" + far + ")", heap.does(far));
            }
            isDone(heap, 0, "a STEP of the COLLECTOR");
            Check.same("it did one", heap.about(0, 4), 1);
        }
    }

    private static void commitOfNone() {
        Check.sentence("Term 1: COMMIT: the oldest WRITE is done in MEMORY; BLOCKED if there is none");
        StoreBufferHeap heap = new StoreBufferHeap();
        heap.heap(2, 1, 2, 1);
        Check.script(heap, 2, "new 0;store 0 0 0;");
        isBlocked(heap, 8, "an empty BUFFER");
        isBlocked(heap, 9, "an empty BUFFER");
        isBlocked(heap, 10, "an empty BUFFER");
        Check.same("store", Check.run(heap, "2222"), 4);
        isBlocked(heap, 9, "another's BUFFER");
        Check.same("not in MEMORY", heap.cell(1, 0, 0), -2);
        isDone(heap, 10, "one waits");
        Check.same("in MEMORY", heap.cell(1, 0, 0), 0);
        Check.same("gone from the BUFFER", heap.waits(2), 0);
        isBlocked(heap, 10, "none is left");
        Check.same("a COMMIT is no STEP", heap.about(2, 4), 4);
    }

    private static void commitsAreOldestFirst() {
        Check.sentence("Term 1: the WRITE comes to the end of its BUFFER; COMMIT of the oldest");
        StoreBufferHeap heap = new StoreBufferHeap();
        heap.heap(1, 4, 2, 2);
        heap.leave(3);
        Check.script(heap, 1, "new 0;new 1;store 0 0 0;store 0 1 1;store 0 0 1;store 1 0 0;");
        Check.same("four stores", Check.run(heap, "1111111111"), 10);
        int[][] due = {{0, -2, -2}, {0, 1, -2}, {1, 1, -2}, {1, 1, 0}};
        for (int i = 0; i < 4; i++) {
            Check.same("waits", heap.waits(1), 4 - i);
            Check.isTrue("COMMIT " + i, heap.does(9));
            Check.same("0.0 after " + i, heap.cell(1, 0, 0), due[i][0]);
            Check.same("0.1 after " + i, heap.cell(1, 0, 1), due[i][1]);
            Check.same("1.0 after " + i, heap.cell(1, 1, 0), due[i][2]);
        }
        isBlocked(heap, 9, "none is left");
    }

    private static void writesUpToFull() {
        Check.sentence("Term 1: if that is full, the THREAD is BLOCKED (B 1 to 4)");
        for (int size = 1; size <= 4; size++) {
            StoreBufferHeap heap = new StoreBufferHeap();
            heap.heap(1, size, 1, 1);
            Check.script(heap, 1, "new 0;store 0 0 1;go 1;");
            heap.does(1);
            for (int i = 1; i <= size; i++) {
                Check.same("READ", Check.run(heap, "1"), 1);
                isDone(heap, 1, "WRITE " + i + " of " + size);
                Check.same("waits", heap.waits(1), i);
                Check.same("go", Check.run(heap, "1"), 1);
            }
            isDone(heap, 1, "READ needs no room");
            isBlocked(heap, 1, "full with " + size);
            isDone(heap, 9, "COMMIT");
            isDone(heap, 1, "room for one");
            Check.same("full again", heap.waits(1), size);
        }
    }

    private static void collectorWritesUpToFull() {
        Check.sentence("Term 1: if that is full, the THREAD is BLOCKED (the COLLECTOR)");
        String[] ahead = {"0100 010", "0100 0100 010", "0100 0100 0100", "0100 0100 0100 0 010 010 010"};
        for (int size = 1; size <= 4; size++) {
            StoreBufferHeap heap = new StoreBufferHeap();
            heap.heap(1, size, 1, 1);
            heap.leave(4);
            String schedule = ahead[size - 1];
            Check.same("up to full", Check.run(heap, schedule), schedule.replace(" ", "").length());
            Check.same("full", heap.waits(0), size);
            isBlocked(heap, 0, "full with " + size);
            isDone(heap, 8, "COMMIT");
            isDone(heap, 0, "room for one");
            Check.same("full again", heap.waits(0), size);
        }
    }

    private static void readsTheYoungest() {
        Check.sentence("Term 1: A THREAD READS a CELL: the youngest WRITE to it in its own BUFFER, "
            + "else MEMORY");
        StoreBufferHeap heap = new StoreBufferHeap();
        heap.heap(2, 4, 3, 2);
        heap.leave(3);
        Check.script(heap, 1, "new 0;new 1;store 0 0 0;store 0 0 1;store 0 1 0;load 2 0 0;load 3 0 1;"
            + "load 2 1 0;");
        Check.same("three wait", Check.run(heap, "11111111"), 8);
        int[] read = {1, 1, 1, 1};
        for (int commits = 0; commits <= 3; commits++) {
            Check.same("0.0 after " + commits, heap.reads(1, 1, 0, 0), read[commits]);
            Check.same("0.1 after " + commits, heap.reads(1, 1, 0, 1), 0);
            Check.same("another's 0.0", heap.reads(2, 1, 0, 0), commits == 0 ? -2 : commits == 1 ? 0 : 1);
            Check.same("another's 0.1", heap.reads(2, 1, 0, 1), commits < 3 ? -2 : 0);
            Check.same("the COLLECTOR's 0.0", heap.reads(0, 1, 0, 0), heap.cell(1, 0, 0));
            heap.image(commits % 3);
            Check.same("loads", Check.run(heap, "111"), 3);
            Check.same("loaded the youngest", heap.root(1, 3, false), 0);
            Check.same("MEMORY", heap.root(1, 2, false), -2);
            heap.again(commits % 3);
            heap.does(1);
            Check.same("loaded the youngest", heap.root(1, 2, false), 1);
            heap.again(commits % 3);
            heap.does(9);
        }
    }

    private static void drainedIsOfItsOwn() {
        Check.sentence("Term 1: What must be DRAINED is BLOCKED while its own BUFFER is not empty");
        StoreBufferHeap heap = new StoreBufferHeap();
        heap.heap(2, 2, 2, 1);
        Check.script(heap, 1, "new 0;store 0 0 0;");
        Check.same("a WRITE of 1 waits", Check.run(heap, "1111"), 4);
        isDone(heap, 0, "ask: the COLLECTOR's is empty");
        isBlocked(heap, 1, "its own is not empty");
        isDone(heap, 2, "its own is empty");
        isBlocked(heap, 0, "1 has not answered");
        isDone(heap, 9, "COMMIT");
        isDone(heap, 1, "drained");
        Check.same("goes on, flips MARK", Check.run(heap, "00"), 2);
        isBlocked(heap, 0, "its own is not empty");
        isDone(heap, 8, "COMMIT");
        isDone(heap, 0, "drained");
    }

    private static void behindTheLastLine() {
        Check.sentence("Term 2: it is behind the last one: it has no STEP left but HANDSHAKES");
        StoreBufferHeap heap = new StoreBufferHeap();
        isBlocked(heap, 1, "no SCRIPT");
        Check.script(heap, 1, "see 0;see 0;");
        isDone(heap, 1, "LINE 0");
        isDone(heap, 1, "LINE 1");
        isBlocked(heap, 1, "behind the last one");
        Check.isTrue("ask", heap.does(0));
        isDone(heap, 1, "a HANDSHAKE");
        isBlocked(heap, 1, "behind the last one");
        Check.script(heap, 1, "see 0;".repeat(20));
        Check.same("twenty", Check.run(heap, "1".repeat(21)), 20);
        Check.same("behind the last one", heap.about(1, 0), 20);
    }

    private static void newWithoutAFreeSlot() {
        Check.sentence("Term 2: new r: if no SLOT is free, BLOCKED");
        for (int slots = 1; slots <= 8; slots++) {
            StoreBufferHeap heap = new StoreBufferHeap();
            heap.heap(1, 1, slots, 1);
            Check.script(heap, 1, "new 0;".repeat(10));
            Check.same("all but one", Check.run(heap, "1".repeat(slots - 1)), slots - 1);
            isDone(heap, 1, "the last free one of " + slots);
            isBlocked(heap, 1, "none of " + slots + " is free");
            Check.same("the LINE", heap.about(1, 0), slots);
            Check.same("r stays", heap.root(1, 0, true), slots - 1);
        }
        StoreBufferHeap freed = new StoreBufferHeap();
        Check.script(freed, 1, "new 0;drop 0;new 1;");
        Check.same("made, let go", Check.run(freed, "11"), 2);
        isBlocked(freed, 1, "not free yet");
        freed.fair(30);
        Check.same("once it is free", freed.root(1, 1, true), 1);
    }

    private static void newTakesTheLeast() {
        Check.sentence("Term 2: else the least free one is an OBJECT");
        StoreBufferHeap heap = new StoreBufferHeap();
        heap.heap(1, 1, 4, 1);
        Check.script(heap, 1, "new 0;new 1;new 2;new 3;drop 1;drop 3;");
        Check.same("four, two let go", Check.run(heap, "111111"), 6);
        heap.fair(60);
        Check.same("1 and 3 are free", heap.count(7), 2);
        Check.script(heap, 1, "new 3;new 1;");
        heap.fair(6);
        Check.same("the least", heap.root(1, 3, false), 1);
        Check.same("then the other", heap.root(1, 1, false), 3);
        Check.same("none is free", heap.count(7), 0);
    }

    private static void newIsClean() {
        Check.sentence("Term 2: FLAG in MEMORY is COLOUR as READ, FIELDS there are NIL; r is it");
        StoreBufferHeap heap = new StoreBufferHeap();
        heap.heap(1, 1, 1, 3);
        heap.leave(3);
        Check.script(heap, 1, "new 0;store 0 0 0;store 0 1 0;store 0 2 0;drop 0;");
        Check.same("all FIELDS", Check.run(heap, "1 11b 11b 11b 1"), 11);
        Check.same("freed", Check.run(heap, "0100a 0100a 0100a0a 010 010 010 0a 0"), 29);
        Check.same("free", heap.colour(0), 0);
        Check.same("FLAG stays", heap.cell(0, 0, 0), 0);
        Check.same("COLOUR", heap.cell(5, 0, 0), 1);
        for (int f = 0; f < 3; f++) {
            Check.same("FIELD " + f + " stays", heap.cell(1, 0, f), 0);
        }
        Check.script(heap, 1, "new 2;");
        Check.isTrue("new", heap.does(1));
        Check.same("FLAG is COLOUR", heap.cell(0, 0, 0), 1);
        for (int f = 0; f < 3; f++) {
            Check.same("FIELD " + f + " is NIL", heap.cell(1, 0, f), -2);
        }
        Check.same("r", heap.root(1, 2, true), 1);
        Check.same("no WRITE", heap.waits(1), 0);
    }

    private static void newLeavesOthersAlone() {
        Check.sentence("Term 2: FIELDS there are NIL (of that SLOT alone)");
        for (int fields = 1; fields <= 3; fields++) {
            StoreBufferHeap heap = new StoreBufferHeap();
            heap.heap(1, 1, 8, fields);
            heap.leave(3);
            int last = fields - 1;
            Check.script(heap, 1, "new 3;new 0;store 0 0 0;store 0 " + last + " 0;drop 3;new 3;go 5;");
            Check.same("1 holds itself", Check.run(heap, "11 11b 11b 1"), 9);
            Check.same("up to PHASE init", Check.run(heap, "0100a 0100a"), 10);
            Check.same("up to the last SLOT", Check.run(heap, "11".repeat(6)), 12);
            Check.same("the last SLOT", heap.root(1, 3, false), 7);
            Check.same("PHASE", heap.cell(3, 0, 0), 1);
            Check.same("MARK", heap.cell(4, 0, 0), 1);
            Check.same("ROOTS are marked", Check.run(heap, "0100a0a 010 0 1111111 0"), 19);
            heap.fair(40);
            Check.same("0 was freed and is made anew", heap.serial(0), 8);
            Check.same("1 holds itself", heap.cell(1, 1, 0), 1);
            Check.same("1 holds itself", heap.cell(1, 1, last), 1);
        }
    }

    private static void lettingGo() {
        Check.sentence("Term 2: drop r: r is NIL");
        StoreBufferHeap heap = new StoreBufferHeap();
        Check.script(heap, 1, "drop 3;new 3;drop 3;drop 3;");
        Check.isTrue("drop of NIL is a STEP", heap.does(1));
        Check.same("NIL", heap.root(1, 3, false), -2);
        heap.does(1);
        Check.same("an OBJECT", heap.root(1, 3, false), 0);
        Check.isTrue("drop", heap.does(1));
        Check.same("NIL", heap.root(1, 3, false), -2);
        Check.same("it is no free one for that", heap.count(7), 0);
        isDone(heap, 1, "drop of NIL");
    }

    private static void seesNil() {
        Check.sentence("Term 2: see r: r's SERIAL (NIL: -1) is SEEN");
        StoreBufferHeap heap = new StoreBufferHeap();
        Check.script(heap, 1, "see 2;new 2;see 2;drop 2;see 2;");
        Check.same("all", Check.run(heap, "11111"), 5);
        int[] due = {-1, 0, -1, -2};
        for (int k = 0; k < due.length; k++) {
            Check.same("seen " + k, heap.seen(1, k), due[k]);
        }
    }

    private static void copies() {
        Check.sentence("Term 2: copy r s: r is s");
        StoreBufferHeap heap = new StoreBufferHeap();
        Check.script(heap, 1, "new 0;copy 3 0;copy 0 1;copy 3 3;");
        Check.same("new, copy", Check.run(heap, "11"), 2);
        Check.same("r", heap.root(1, 3, true), 0);
        Check.same("s stays", heap.root(1, 0, true), 0);
        heap.does(1);
        Check.same("NIL is copied", heap.root(1, 0, true), -2);
        heap.does(1);
        Check.same("onto itself", heap.root(1, 3, true), 0);
    }

    private static void goesToLines() {
        Check.sentence("Term 2: go l: LINE l is next (a LINE that there is not: behind the last one)");
        int[] due = {0, 1, 2, 3, 3, 3, 3};
        int[] to = {0, 1, 2, 3, 4, 19, 20};
        for (int i = 0; i < to.length; i++) {
            StoreBufferHeap heap = new StoreBufferHeap();
            Check.script(heap, 1, "go " + to[i] + ";see 0;see 0;");
            isDone(heap, 1, "go is a STEP");
            Check.same("go " + to[i], heap.about(1, 0), due[i]);
            Check.same("behind the last one", heap.about(1, 3), due[i] == 3 ? 1 : 0);
            Check.same("between", heap.about(1, 1), 1);
        }
        StoreBufferHeap heap = new StoreBufferHeap();
        Check.script(heap, 1, "go 19;" + "see 0;".repeat(19));
        Check.same("the last LINE of 20", Check.run(heap, "111"), 2);
        Check.same("it was done", heap.count(11), 1);
        Check.script(heap, 1, "see 0;".repeat(19) + "go 20;");
        Check.same("behind the 20th", Check.run(heap, "1".repeat(25)), 20);
        Check.same("behind the 20th", heap.about(1, 0), 20);
    }

    private static void loadsThroughNil() {
        Check.sentence("Term 2: load r s f: r is FIELD f of s as READ (NIL, if s is NIL): one STEP");
        StoreBufferHeap heap = new StoreBufferHeap();
        heap.heap(1, 1, 2, 3);
        Check.script(heap, 1, "new 0;new 1;load 1 2 0;store 0 2 0;load 1 0 1;load 1 0 2;load 0 0 2;");
        Check.same("two", Check.run(heap, "11"), 2);
        isDone(heap, 1, "through NIL");
        Check.same("NIL", heap.root(1, 1, false), -2);
        Check.same("one STEP", heap.about(1, 0), 3);
        Check.same("no STRAY", heap.count(6), 0);
        Check.same("store", Check.run(heap, "111b"), 4);
        isDone(heap, 1, "a NIL FIELD");
        Check.same("NIL", heap.root(1, 1, false), -2);
        isDone(heap, 1, "FIELD 2");
        Check.same("it", heap.root(1, 1, false), 0);
        isDone(heap, 1, "r and s may be one");
        Check.same("it", heap.root(1, 0, true), 0);
    }

    private static void storesThroughNil() {
        Check.sentence("Term 2: store r f s: if r is NIL, one STEP, nothing else");
        StoreBufferHeap heap = new StoreBufferHeap();
        Check.script(heap, 1, "new 0;store 1 0 0;store 0 0 1;");
        Check.same("up to init", Check.run(heap, "1 0100a 0100a"), 11);
        isDone(heap, 1, "through NIL");
        Check.same("the next LINE", heap.about(1, 0), 2);
        Check.same("between", heap.about(1, 1), 1);
        Check.same("no WRITE", heap.waits(1), 0);
        Check.same("nothing marked", heap.work(1), 0);
        Check.same("no STRAY", heap.count(6), 0);
        isDone(heap, 1, "through an OBJECT");
        Check.same("more than one STEP", heap.about(1, 1), 0);
        isDone(heap, 1, "WRITE of NIL");
        Check.same("NIL waits", heap.write(1, 0, 3), -2);
    }

    private static void storesStepByStep() {
        Check.sentence("Term 2: a STEP that READS FIELD f of r; then what was READ is TO MARK, then s; "
            + "then a STEP that WRITES the FIELD");
        StoreBufferHeap heap = new StoreBufferHeap();
        heap.heap(1, 1, 3, 2);
        Check.script(heap, 1, "new 0;new 1;new 2;store 0 1 1;store 0 1 2;");
        Check.same("0.1 is 1", Check.run(heap, "111111b"), 7);
        Check.same("up to init", Check.run(heap, "0100a0100a"), 10);
        int[] works = {0, 0, 0, 2, 2, 2, 6};
        for (int i = 0; i < works.length; i++) {
            isDone(heap, 1, "STEP " + i);
            Check.same("WORK after " + i, heap.work(1), works[i]);
            Check.same("no WRITE after " + i, heap.waits(1), 0);
            Check.same("the LINE being done", heap.about(1, 0), 4);
            Check.same("not between", heap.about(1, 1), 0);
        }
        isDone(heap, 1, "WRITE");
        Check.same("SLOT", heap.write(1, 0, 1), 0);
        Check.same("FIELD", heap.write(1, 0, 2), 1);
        Check.same("s", heap.write(1, 0, 3), 2);
        Check.same("behind the last one", heap.about(1, 0), 5);
        Check.same("between", heap.about(1, 1), 1);
    }

    private static int stepsOf(StoreBufferHeap heap, String line) {
        Check.same("a LINE", Check.script(heap, 1, line), 1);
        int before = heap.about(1, 4);
        Check.run(heap, "1".repeat(12));
        Check.same("it is done", heap.about(1, 0), 1);
        return heap.about(1, 4) - before;
    }

    private static void nilNeedsNoMark() {
        Check.sentence("Term 1: TO MARK a REFERENCE (if it is NIL, no STEP is needed)");
        StoreBufferHeap heap = new StoreBufferHeap();
        heap.heap(1, 4, 3, 1);
        Check.script(heap, 1, "new 0;new 1;");
        Check.run(heap, "11");
        Check.same("NIL over NIL", stepsOf(heap, "store 0 0 3;"), 2);
        Check.same("an OBJECT over NIL", stepsOf(heap, "store 0 0 1;"), 3);
        Check.same("an OBJECT over an OBJECT", stepsOf(heap, "store 0 0 0;"), 4);
        Check.same("NIL over an OBJECT", stepsOf(heap, "store 0 0 3;"), 3);
    }

    private static void alikeNeedsOneStep() {
        Check.sentence("Term 1: a STEP that READS its SLOT's FLAG and MARK; if they are alike, that is all");
        StoreBufferHeap heap = new StoreBufferHeap();
        heap.heap(1, 1, 3, 1);
        Check.script(heap, 1, "new 0;new 1;");
        Check.run(heap, "11");
        Check.same("alike: 0 and 0", stepsOf(heap, "store 0 0 1;"), 3);
        heap.does(9);
        Check.same("MARK waits in the COLLECTOR's BUFFER", Check.run(heap, "0100"), 4);
        Check.same("alike, as it READS", stepsOf(heap, "store 0 0 3;"), 3);
        heap.does(9);
        Check.same("MARK, PHASE", Check.run(heap, "a0100a"), 6);
        Check.same("not alike", stepsOf(heap, "store 0 0 1;"), 5);
        heap.does(9);
        Check.same("alike: 1 and 1", stepsOf(heap, "store 0 0 1;"), 4);
    }

    private static void idleNeedsTwoSteps() {
        Check.sentence("Term 1: Else a STEP that READS PHASE; if it is idle, that is all. Else a STEP ..");
        StoreBufferHeap heap = new StoreBufferHeap();
        heap.heap(1, 1, 3, 1);
        Check.script(heap, 1, "new 0;new 1;");
        Check.same("MARK flips", Check.run(heap, "11 0100a"), 7);
        Check.same("idle", stepsOf(heap, "store 0 0 1;"), 4);
        Check.same("nothing marked", heap.work(1), 0);
        Check.same("FLAG stays", heap.cell(0, 1, 0), 0);
        heap.does(9);
        Check.same("PHASE init waits", Check.run(heap, "0100"), 4);
        Check.same("idle, as it READS", stepsOf(heap, "store 0 0 3;"), 4);
        heap.does(9);
        Check.isTrue("PHASE is init", heap.does(8));
        Check.same("init", stepsOf(heap, "store 0 0 1;"), 5);
        Check.same("marked", heap.work(1), 2);
        Check.same("FLAG is MARK", heap.cell(0, 1, 0), 1);
    }

    /** 1 is in 0, and both the COLLECTOR and the MUTATOR are to mark it. */
    private static void markedByAnother() {
        Check.sentence("Term 1: if the FLAG in MEMORY still is not MARK as it was READ, it becomes that, "
            + "and the SLOT comes to the THREAD's WORK");
        for (String first : new String[] {"01", "10"}) {
            StoreBufferHeap heap = new StoreBufferHeap();
            heap.heap(1, 1, 2, 1);
            heap.leave(2);
            Check.script(heap, 1, "new 0;new 1;store 0 0 1;drop 1;store 0 0 1;");
            Check.same("0 holds 1", Check.run(heap, "1111b1"), 6);
            Check.same("up to the scan", Check.run(heap, "0100a 0100a 0100a0a 010 0 1111 0"), 26);
            Check.same("both have READ all", Check.run(heap, "000 111"), 6);
            Check.same("white", heap.colour(1), 1);
            Check.same("both exchange", Check.run(heap, first), 2);
            Check.same("FLAG", heap.cell(0, 1, 0), 1);
            boolean collector = first.equals("01");
            Check.same("the COLLECTOR's WORK", heap.work(0), collector ? 3 : 1);
            Check.same("the MUTATOR's WORK", heap.work(1), collector ? 0 : 2);
        }
    }

    /** Without FENCES: MARK is flipped between the READ of it and the exchange. */
    private static void markedAsItWasRead() {
        Check.sentence("Term 1: MARK as it was READ, whatever it is by then");
        StoreBufferHeap heap = new StoreBufferHeap();
        heap.heap(1, 4, 1, 1);
        heap.leave(4);
        Check.same("up to the sweep; COLOUR waits",
            Check.run(heap, "0100a 0100a 0100a 0 010 010 010 00"), 27);
        Check.script(heap, 1, "new 0;store 0 0 0;");
        Check.same("made of the old COLOUR", Check.run(heap, "1"), 1);
        Check.same("idle and MARK flipped wait", Check.run(heap, "0 010 0"), 5);
        Check.same("four wait", heap.waits(0), 4);
        Check.same("READS FIELD, FLAG and MARK, PHASE", Check.run(heap, "111"), 3);
        Check.same("MARK flips", Check.run(heap, "aaaa"), 4);
        Check.same("MARK", heap.cell(4, 0, 0), 0);
        Check.same("alike by now", heap.cell(0, 0, 0), 0);
        isDone(heap, 1, "exchange");
        Check.same("FLAG is MARK as it was READ", heap.cell(0, 0, 0), 1);
        Check.same("WORK", heap.work(1), 1);
    }

    private static void exchangesAreDrained() {
        Check.sentence("Term 1: Else a STEP, DRAINED (FENCES left away or not)");
        for (int left : new int[] {0, 4}) {
            StoreBufferHeap heap = new StoreBufferHeap();
            heap.heap(1, 2, 2, 2);
            heap.leave(left);
            Check.script(heap, 1, "new 0;store 0 0 1;store 0 1 0;");
            Check.same("up to init", Check.run(heap, "1 0100a 0100a"), 11);
            Check.same("a WRITE waits, READS are done", Check.run(heap, "11 111"), 5);
            isBlocked(heap, 1, "exchange");
            isDone(heap, 9, "COMMIT");
            isDone(heap, 1, "exchange");
            Check.same("marked", heap.work(1), 1);
        }
    }

    /** Every THREAD can do a STEP here, and every one a COMMIT. */
    private static StoreBufferHeap allReady(int mutators) {
        StoreBufferHeap heap = new StoreBufferHeap();
        heap.heap(mutators, 1, 3, 1);
        heap.leave(7);
        for (int m = 1; m <= mutators; m++) {
            Check.script(heap, m, "new 0;store 0 0 0;see 0;");
        }
        Check.run(heap, "0 123 0 0 123 123 123");
        heap.image(0);
        return heap;
    }

    private static void runOfEveryByte() {
        Check.sentence("Term 4: digits 0 .. 3 STEPS, letters a .. d COMMITS of THREADS 0 .. 3; an ENTRY "
            + "of no THREAD, or of another byte is passed over");
        for (int mutators = 1; mutators <= 3; mutators++) {
            StoreBufferHeap heap = null;
            for (int sign = 0; sign < 256; sign++) {
                if (sign % 64 == 0) {
                    heap = allReady(mutators);
                }
                heap.again(0);
                heap.feed(sign << 24, 0, 0, 0, 0);
                heap.end(1);
                boolean step = sign >= '0' && sign <= '0' + mutators;
                boolean commit = sign >= 'a' && sign <= 'a' + mutators;
                Check.same("byte " + sign + " of " + mutators, heap.run(), step || commit ? 1 : 0);
                if (commit) {
                    Check.same("COMMIT of " + (sign - 'a'), heap.waits(sign - 'a'), 0);
                }
                if (step) {
                    Check.same("STEP of " + (sign - '0'), heap.about(sign - '0', 4), sign == '0' ? 4 : 5);
                }
            }
        }
    }

    private static void runPassesOver() {
        Check.sentence("Term 4: an ENTRY that is BLOCKED is passed over; 9: how many ENTRIES were done");
        StoreBufferHeap heap = new StoreBufferHeap();
        heap.heap(2, 1, 1, 1);
        Check.script(heap, 2, "see 0;see 0;");
        Check.same("all BLOCKED", Check.run(heap, "1abc1"), 0);
        Check.same("some", Check.run(heap, "1 2 b 2 2 1"), 2);
        Check.same("both were done", heap.count(12), 2);
        Check.same("400 bytes", Check.run(heap, "x".repeat(399) + "0"), 1);
        Check.same("the last was done", heap.about(0, 4), 1);
    }

    private static void runTakesTheTape() {
        Check.sentence("9: The tape is taken (and is empty then)");
        StoreBufferHeap heap = new StoreBufferHeap();
        Check.same("an empty tape", heap.run(), 0);
        Check.same("one", Check.run(heap, "0x"), 1);
        Check.same("empty then", heap.end(1), -1);
        Check.same("nothing is left", heap.run(), 0);
        Check.same("none is done", Check.run(heap, "xx"), 0);
        Check.same("empty then", heap.end(1), -1);
    }

    private static void fairNumbers() {
        Check.sentence("10: FAIR n, 0 .. 200: how many ENTRIES were done. NONE: another number");
        StoreBufferHeap heap = new StoreBufferHeap();
        Check.script(heap, 1, "see 0;go 0;");
        String before = Told.ofHeap(heap);
        for (int n : new int[] {Integer.MIN_VALUE, -1, 201, 202, Integer.MAX_VALUE}) {
            Check.same("fair(" + n + ")", heap.fair(n), -1);
        }
        Check.same("fair(0)", heap.fair(0), 0);
        Check.sameText("nothing changes", Told.ofHeap(heap), before);
        heap.fair(1);
        Check.same("fair(1)", heap.about(1, 4), 1);
        heap.fair(199);
        Check.same("fair(199)", heap.about(1, 4), 200);
        heap.fair(200);
        Check.same("fair(200)", heap.about(1, 4), 400);
    }

    private static void fairGoesByThreads() {
        Check.sentence("Term 4: n times: of each THREAD, from 0 on, a STEP");
        for (int mutators = 1; mutators <= 3; mutators++) {
            StoreBufferHeap heap = new StoreBufferHeap();
            heap.heap(mutators, 1, 3, 1);
            for (int m = 1; m <= mutators; m++) {
                Check.script(heap, m, "new 0;");
            }
            Check.same("asks, all answer", heap.fair(1), mutators + 1);
            Check.same("none has made one", heap.count(4), 0);
            Check.same("goes on, all make one", heap.fair(1), mutators + 1);
            for (int m = 1; m <= mutators; m++) {
                Check.same("in their order", heap.root(m, 0, true), m - 1);
            }
            Check.same("flips and commits", heap.fair(1), 2);
        }
    }

    /** MARK is flipped in the same turn in which the MUTATOR READS it, and is done after that. */
    private static void fairStepsThenCommits() {
        Check.sentence("Term 4: then of each a COMMIT");
        StoreBufferHeap heap = new StoreBufferHeap();
        Check.script(heap, 1, "new 0;store 0 0 0;");
        heap.does(1);
        Check.same("ask, answer", heap.fair(1), 2);
        Check.same("go on, READ", heap.fair(1), 2);
        Check.same("flip, READ of FLAG and MARK, COMMIT", heap.fair(1), 3);
        Check.same("done", heap.cell(4, 0, 0), 1);
        Check.same("ask, WRITE, COMMIT", heap.fair(1), 3);
        Check.same("the store is done", heap.about(1, 1), 1);
        Check.same("in MEMORY", heap.cell(1, 0, 0), 0);
        Check.same("answer", heap.fair(1), 1);
        Check.same("go on", heap.fair(1), 1);
    }
}
