/** Boundary sentences of Term 3 and of promise 17: HANDSHAKES, the COLLECTOR's ROUND, about. */
public final class RoundEdgesTest {
    private static final int[] FAR = {Integer.MIN_VALUE, -2, -1, 99, Integer.MAX_VALUE};
    private static final String TO_ROOTS = "0100a 0100a 0100a0a 010 0";

    public static void main(String[] args) {
        asksAreDrained();
        goesOnWhenAllHaveAnswered();
        answersBetweenLines();
        answersAheadOfTheNextLine();
        answersAreDrained();
        plainAnswersAreOneStep();
        rootsOfRegisters();
        rootsFromZeroOn();
        rootsAreHandedOverAtTheEnd();
        workAnswersAreOneStep();
        theRoundsSteps();
        theRoundsWrites();
        theSenseFlipsBack();
        scansTheLeast();
        scansEachField();
        scansMemory();
        scanWithNone();
        workFoundLate();
        sweepsSlotBySlot();
        sweepsWhatIsNotMarked();
        aSlotIsInWorkOnce();
        aboutThreads();
        aboutOthers();
        aboutLines();
        aboutRounds();
        aboutBetween();
        aboutAsked();
        aboutBlocked();
        aboutSteps();
        Check.end();
    }

    private static void asksAreDrained() {
        Check.sentence("Term 3: asks all MUTATORS; that is one STEP of it, DRAINED (unless FENCES are "
            + "left away)");
        for (int left = 0; left < 8; left++) {
            StoreBufferHeap heap = Scenes.heapOf(2, 1, 1, "");
            heap.leave(left);
            Scenes.goes(heap, "0100");
            boolean fences = left < 4;
            Check.same("with leave(" + left + ")", heap.about(0, 3), fences ? 1 : 0);
            Check.same("with leave(" + left + ")", heap.does(0) ? 1 : 0, fences ? 0 : 1);
            Check.same("asked", heap.about(0, 2), fences ? 0 : 1);
            heap.does(8);
            Check.same("drained", heap.does(0) ? 1 : 0, fences ? 1 : 0);
            Check.same("asked", heap.about(1, 2), 1);
        }
    }

    private static void goesOnWhenAllHaveAnswered() {
        Check.sentence("Term 3: it goes on with a STEP when all have answered, else it is BLOCKED");
        for (int mutators = 1; mutators <= 3; mutators++) {
            StoreBufferHeap heap = new StoreBufferHeap();
            heap.heap(mutators, 1, 1, 1);
            Scenes.goes(heap, "0");
            for (int m = mutators; m >= 1; m--) {
                Check.same("have not answered", heap.about(0, 2), m);
                Check.same("BLOCKED", heap.about(0, 3), 1);
                Check.isFalse("BLOCKED", heap.does(0));
                Check.isTrue("answers", heap.does(m));
            }
            Check.same("all have", heap.about(0, 2), 0);
            Check.same("not BLOCKED", heap.about(0, 3), 0);
            Check.isTrue("goes on", heap.does(0));
            Check.same("by a STEP that does nothing else", heap.waits(0), 0);
            Check.isTrue("flips MARK", heap.does(0));
            Check.same("by the next one", heap.waits(0), 1);
        }
    }

    private static void answersBetweenLines() {
        Check.sentence("Term 3: A MUTATOR that is asked answers, as soon as it is between two LINES");
        for (int begun = 1; begun <= 4; begun++) {
            StoreBufferHeap heap = Scenes.heapOf(2, 2, 1, "new 0;new 1;store 0 0 1;store 0 0 0;see 0;");
            Scenes.goes(heap, "11 111 b");
            Scenes.goes(heap, "1".repeat(begun) + "0");
            for (int i = begun; i < 4; i++) {
                Check.same("in the store", heap.about(1, 1), 0);
                Check.isTrue("the store goes on", heap.does(1));
                Check.same("not answered", heap.about(1, 2), 1);
            }
            Check.same("between", heap.about(1, 1), 1);
            Check.same("the WRITE waits", heap.waits(1), 1);
            Scenes.goes(heap, "b1");
            Check.same("answered", heap.about(1, 2), 0);
            Check.same("nothing else", heap.count(11), 0);
        }
    }

    private static void answersAheadOfTheNextLine() {
        Check.sentence("Term 3: ahead of the next one");
        StoreBufferHeap heap = Scenes.heapOf(1, 1, 1, "see 0;see 0;");
        Scenes.goes(heap, "101");
        Check.same("one LINE, then the answer", heap.count(11), 1);
        Check.same("answered", heap.about(1, 2), 0);
        Scenes.goes(heap, "1");
        Check.same("then the next LINE", heap.count(11), 2);
        StoreBufferHeap full = Scenes.heapOf(1, 1, 1, "new 0;new 0;");
        Scenes.goes(full, "10");
        Check.same("a BLOCKED LINE does not matter", full.about(1, 3), 0);
        Scenes.goes(full, "1");
        Check.same("BLOCKED again", full.about(1, 3), 1);
    }

    private static void answersAreDrained() {
        Check.sentence("Term 3: answers .. DRAINED (unless FENCES are left away): plain, ROOTS, WORK");
        String[] upToAsk = {"", "0100a 0100a 0100a0a 010", TO_ROOTS + "10"};
        for (int kind = 0; kind < 3; kind++) {
            for (int left : new int[] {0, 3, 4, 7}) {
                answersDrained(kind, left, upToAsk[kind]);
            }
        }
    }

    /** The SCRIPT stores just ahead of the ask, so that its WRITE waits when it is asked. */
    private static void answersDrained(int kind, int left, String upToAsk) {
        StoreBufferHeap heap = Scenes.heapOf(1, 1, 1, "");
        Scenes.goes(heap, upToAsk);
        heap.leave(3);
        Check.same("a SCRIPT", Check.script(heap, 1, "new 0;store 0 0 1;drop 0;"), 3);
        Scenes.goes(heap, "111");
        heap.leave(left);
        Scenes.goes(heap, "0");
        Check.same("asked", heap.about(1, 2), 1);
        Check.same("a WRITE waits", heap.waits(1), 1);
        boolean fences = left < 4;
        Check.same(kind + " undrained", heap.about(1, 3), fences ? 1 : 0);
        Check.same(kind + " undrained", heap.does(1) ? 1 : 0, fences ? 0 : 1);
        if (fences) {
            Scenes.goes(heap, "b1");
        }
        Check.same("a STEP of the answer", heap.about(1, 1), kind == 1 ? 0 : 1);
    }

    private static void plainAnswersAreOneStep() {
        Check.sentence("Term 3: to a plain one by one STEP");
        StoreBufferHeap heap = Scenes.heapOf(1, 4, 1, "new 0;new 1;new 2;new 3;");
        Scenes.goes(heap, "1111");
        for (int i = 0; i < 4; i++) {
            Scenes.goes(heap, "0");
            Check.same("asked", heap.about(1, 2), 1);
            Scenes.goes(heap, "1");
            Check.same("answered", heap.about(1, 2), 0);
            Scenes.goes(heap, i < 2 ? "00a" : i == 2 ? "00a0a" : "0");
        }
    }

    /** Up to the ask for ROOTS, with these REGISTERS being OBJECTS of their own. */
    private static StoreBufferHeap asksForRoots(int registers) {
        StringBuilder script = new StringBuilder();
        for (int r = 0; r < 4; r++) {
            script.append((registers & 1 << r) != 0 ? "new " + r + ";" : "");
        }
        StoreBufferHeap heap = Scenes.heapOf(1, 4, 1, script.toString());
        Scenes.goes(heap, "1".repeat(Integer.bitCount(registers)) + TO_ROOTS);
        return heap;
    }

    private static void rootsOfRegisters() {
        Check.sentence("Term 3: if asked for ROOTS: its REGISTERS from 0 on are TO MARK, then by one STEP "
            + "its WORK is handed over to the COLLECTOR's, and it has answered");
        for (int registers = 0; registers < 16; registers++) {
            StoreBufferHeap heap = asksForRoots(registers);
            int number = Integer.bitCount(registers);
            for (int i = 0; i < 3 * number; i++) {
                Check.isTrue("STEP " + i, heap.does(1));
                Check.same("WORK", heap.work(1), (1 << (i + 1) / 3) - 1);
                Check.same("answers", heap.about(1, 1), 0);
                Check.same("has not answered", heap.about(1, 2), 1);
            }
            Check.isTrue("handed over", heap.does(1));
            Check.same("answered", heap.about(1, 2), 0);
            Check.same("the MUTATOR's WORK", heap.work(1), 0);
            Check.same("the COLLECTOR's WORK", heap.work(0), (1 << number) - 1);
        }
    }

    private static void rootsFromZeroOn() {
        Check.sentence("Term 3: REGISTERS from 0 on");
        StoreBufferHeap heap = Scenes.heapOf(1, 4, 1, "new 3;new 2;new 0;copy 1 0;");
        Scenes.goes(heap, "1111" + TO_ROOTS);
        int[] works = {0, 0, 4, 4, 4, 4, 6, 6, 6, 7};
        for (int i = 0; i < works.length; i++) {
            Scenes.goes(heap, "1");
            Check.same("WORK after " + i, heap.work(1), works[i]);
        }
        Scenes.goes(heap, "1");
        Check.same("one STEP of 1, that was alike by then", heap.work(0), 7);
    }

    private static void rootsAreHandedOverAtTheEnd() {
        Check.sentence("Term 3: handed over .. and it has answered (of more than one MUTATOR)");
        StoreBufferHeap heap = new StoreBufferHeap();
        heap.heap(2, 1, 2, 1);
        Check.script(heap, 1, "new 0;");
        Check.script(heap, 2, "new 3;");
        Scenes.goes(heap, "12 01200a 01200a 01200a0a 0120 0 111 222");
        Check.same("of 1", heap.work(1), 1);
        Check.same("of 2", heap.work(2), 2);
        Check.same("of the COLLECTOR", heap.work(0), 0);
        Scenes.goes(heap, "2");
        Check.same("of 2", heap.work(0), 2);
        Check.same("1 keeps its own", heap.work(1), 1);
        Check.isFalse("1 has not answered", heap.does(0));
        Scenes.goes(heap, "1");
        Check.same("of both", heap.work(0), 3);
        Scenes.goes(heap, "0");
    }

    private static void workAnswersAreOneStep() {
        Check.sentence("Term 3: if asked for WORK: by one STEP its WORK is handed over");
        StoreBufferHeap heap = Scenes.heapOf(1, 3, 1, "");
        Scenes.goes(heap, TO_ROOTS + "10");
        Check.same("behind COLOUR: new ones are black", Check.script(heap, 1, "new 0;new 1;new 2;"), 3);
        Scenes.goes(heap, "111 0");
        Check.same("asked for WORK", heap.about(1, 2), 1);
        Scenes.goes(heap, "1");
        Check.same("by one STEP, with all REGISTERS", heap.about(1, 2), 0);
        Check.same("none there is", heap.work(0), 0);
        Scenes.goes(heap, "0");
    }

    private static void theRoundsSteps() {
        Check.sentence("Term 3: The COLLECTOR goes round (how many STEPS it takes)");
        for (int slots = 1; slots <= 8; slots++) {
            StoreBufferHeap heap = Scenes.heapOf(1, slots, 1, "");
            heap.fair(17);
            Check.same("up to WRITES PHASE sweep", heap.about(0, 4), 17);
            Check.same("sweep", heap.cell(3, 0, 0), 3);
            heap.fair(slots);
            Check.same("no ROUND yet", heap.about(0, 0), 0);
            Check.same("sweep", heap.cell(3, 0, 0), 3);
            heap.fair(1);
            Check.same("a ROUND", heap.about(0, 0), 1);
            Check.same("idle", heap.cell(3, 0, 0), 0);
            Check.same("STEPS", heap.about(0, 4), 18 + slots);
        }
    }

    /** After each STEP of the COLLECTOR and COMMIT: PHASE, MARK and COLOUR in one number. */
    private static void theRoundsWrites() {
        Check.sentence("Term 3: WRITES MARK, flipped; PHASE init; PHASE mark; COLOUR as MARK is READ; "
            + "PHASE sweep; PHASE idle, each in its place");
        int[] due = {0, 0, 10, 10, 10, 110, 110, 110, 210, 211, 211, 211, 211, 211, 211, 211,
            311, 311, 11, 11, 11, 1, 1, 1, 101, 101, 101, 201, 200, 200, 200, 200, 200, 200, 200,
            300, 300, 0, 0};
        StoreBufferHeap heap = Scenes.heapOf(1, 1, 1, "");
        int turn = 0;
        for (int i = 0; i < due.length; i++) {
            Check.isTrue("STEP " + i, heap.does(0));
            heap.does(1);
            turn += heap.does(8) ? 1 : 0;
            int got = 100 * heap.cell(3, 0, 0) + 10 * heap.cell(4, 0, 0) + heap.cell(5, 0, 0);
            Check.same("after STEP " + i, got, due[i]);
        }
        Check.same("WRITES", turn, 12);
    }

    private static void theSenseFlipsBack() {
        Check.sentence("Term 3: MARK, flipped (as READ): 0, 1, 0, ..");
        StoreBufferHeap heap = Scenes.heapOf(1, 2, 1, "new 0;");
        Scenes.goes(heap, "1");
        for (int round = 1; round <= 4; round++) {
            while (heap.about(0, 0) < round && heap.fair(1) > 0) {
                heap.fair(1);
            }
            Check.same("MARK after ROUND " + round, heap.reads(0, 4, 0, 0), round % 2);
            Check.same("COLOUR after ROUND " + round, heap.reads(0, 5, 0, 0), round % 2);
            Check.same("FLAG after ROUND " + round, heap.cell(0, 0, 0), round % 2);
            Check.same("it stays", heap.colour(0), 3);
        }
    }

    private static void scansTheLeast() {
        Check.sentence("Term 3: as long as its WORK has SLOTS: the least one is SCANNED");
        StoreBufferHeap heap = Scenes.heapOf(1, 4, 1, "new 2;new 0;new 1;new 3;store 3 0 2;drop 2;");
        Scenes.goes(heap, "1111 111b 1" + TO_ROOTS);
        Scenes.goes(heap, "1".repeat(10) + "0");
        Check.same("1, 2 and 3", heap.work(0), 14);
        Scenes.goes(heap, "00");
        Check.same("1 was the least", heap.work(0), 12);
        Scenes.goes(heap, "00");
        Check.same("then 2", heap.work(0), 8);
        Scenes.goes(heap, "0000");
        Check.same("3 brings 0", heap.work(0), 9);
        Check.same("3 is still there", heap.colour(3), 2);
        Scenes.goes(heap, "0");
        Check.same("3 is gone", heap.work(0), 1);
        Scenes.goes(heap, "00");
        Check.same("none", heap.work(0), 0);
        Scenes.goes(heap, "0");
        Check.same("asks for WORK", heap.about(1, 2), 1);
    }

    private static void scansEachField() {
        Check.sentence("Term 3: each FIELD, from 0 on: a STEP that READS it, and what was READ is TO MARK; "
            + "then by a STEP it is gone from WORK");
        for (int fields = 1; fields <= 3; fields++) {
            StoreBufferHeap nil = Scenes.heapOf(1, 1, fields, "new 0;");
            Scenes.goes(nil, "1" + TO_ROOTS + "11110");
            Scenes.goes(nil, "0".repeat(fields));
            Check.same("all FIELDS READ, NIL", nil.work(0), 1);
            Scenes.goes(nil, "0");
            Check.same("gone", nil.work(0), 0);
        }
        StoreBufferHeap heap = Scenes.heapOf(1, 3, 3, "new 0;new 1;new 2;store 0 0 2;store 0 2 1;drop 1;drop 2;");
        Scenes.goes(heap, "111 111b 111b 11" + TO_ROOTS + "11110");
        int[] works = {1, 1, 1, 5, 5, 5, 5, 5, 7, 6};
        for (int i = 0; i < works.length; i++) {
            Scenes.goes(heap, "0");
            Check.same("WORK after " + i, heap.work(0), works[i]);
        }
    }

    private static void scansMemory() {
        Check.sentence("Term 3: a STEP that READS it (not what waits in a MUTATOR's BUFFER)");
        for (String commit : new String[] {"", "b"}) {
            StoreBufferHeap heap = Scenes.heapOf(1, 3, 1, "new 0;new 1;new 2;store 0 0 1;drop 1;store 0 0 2;drop 2;");
            Scenes.goes(heap, "111 111b 1" + TO_ROOTS + "1111111 0");
            Check.same("0 and 2", heap.work(0), 5);
            heap.leave(3);
            Scenes.goes(heap, "11 1" + commit);
            Scenes.goes(heap, "00");
            Check.same("white", heap.colour(1), 1);
            boolean cut = !commit.isEmpty();
            Scenes.goes(heap, cut ? "0" : "000");
            Check.same("1 is marked, if it was there", heap.work(0), cut ? 4 : 6);
        }
    }

    private static void scanWithNone() {
        Check.sentence("Term 3: With none: a HANDSHAKE for WORK; if there is some then, again. Else a STEP "
            + "that WRITES PHASE sweep");
        StoreBufferHeap heap = Scenes.heapOf(1, 1, 1, "");
        Scenes.goes(heap, TO_ROOTS + "10");
        Check.same("no WORK", heap.work(0), 0);
        Scenes.goes(heap, "0");
        Check.same("asked for WORK at once", heap.about(1, 2), 1);
        Scenes.goes(heap, "10");
        Check.same("no PHASE yet", heap.waits(0), 0);
        Scenes.goes(heap, "0");
        Check.same("PHASE", heap.write(0, 0, 0), 3);
        Check.same("sweep", heap.write(0, 0, 3), 3);
    }

    /** 1 is taken out of 0 by a store with its barrier, after the COLLECTOR has READ 0. */
    private static void workFoundLate() {
        Check.sentence("Term 3: if there is some then, again");
        StoreBufferHeap heap = Scenes.heapOf(1, 3, 1, "new 0;new 1;new 2;store 1 0 2;store 0 0 1;drop 1;drop 2;"
            + "load 1 0 0;store 0 0 3;");
        Scenes.goes(heap, "111 111b 111b 11");
        Scenes.goes(heap, TO_ROOTS + "1111 0");
        Scenes.goes(heap, "1 11111b");
        Check.same("the MUTATOR has marked 1", heap.work(1), 2);
        Scenes.goes(heap, "00");
        Check.same("0 is scanned", heap.work(0), 0);
        Scenes.goes(heap, "01");
        Check.same("1 is handed over", heap.work(0), 2);
        Scenes.goes(heap, "0");
        Scenes.goes(heap, "0000 0");
        Check.same("again: 1 is scanned, 2 is marked", heap.work(0), 4);
        Scenes.goes(heap, "00");
        Check.same("2 is scanned", heap.work(0), 0);
        Scenes.goes(heap, "01");
        Check.same("asked once more", heap.work(0), 0);
        Scenes.goes(heap, "00");
        Check.same("sweep", heap.write(0, 0, 3), 3);
        Scenes.goes(heap, "a 000");
        Check.same("nothing is freed", heap.count(5), 0);
    }

    private static void sweepsSlotBySlot() {
        Check.sentence("Term 3: then SLOT by SLOT, from 0 on, a STEP");
        StoreBufferHeap heap = Scenes.heapOf(1, 8, 1, "new 0;go 0;");
        Scenes.goes(heap, "11".repeat(8));
        Check.script(heap, 1, "drop 0;");
        Scenes.goes(heap, "1" + TO_ROOTS + "10 010 0a");
        for (int slot = 0; slot < 8; slot++) {
            Check.same("not yet", heap.colour(slot), 1);
            Check.same("freed", heap.count(5), slot);
            Scenes.goes(heap, "0");
            Check.same("free", heap.colour(slot), 0);
        }
        Check.same("all", heap.count(7), 8);
        Scenes.goes(heap, "0");
        Check.same("then PHASE idle", heap.write(0, 0, 3), 0);
        Check.same("freed", heap.count(5), 8);
    }

    private static void sweepsWhatIsNotMarked() {
        Check.sentence("Term 3: if it is no free one, and its FLAG as READ is not MARK as READ, it is free");
        StoreBufferHeap heap = Scenes.heapOf(1, 4, 1, "new 0;new 1;new 2;drop 1;");
        Scenes.goes(heap, "1111" + TO_ROOTS + "1111111 0 00 00 010 0a");
        for (int slot = 0; slot < 4; slot++) {
            Scenes.goes(heap, "0");
        }
        Check.same("marked", heap.colour(0), 3);
        Check.same("not marked", heap.colour(1), 0);
        Check.same("marked", heap.colour(2), 3);
        Check.same("a free one with another FLAG stays free", heap.colour(3), 0);
        Check.same("and was not freed", heap.count(5), 1);
        Check.same("FLAG of the free one", heap.cell(0, 3, 0), 0);
        Check.same("free ones", heap.count(7), 2);
    }

    private static void aSlotIsInWorkOnce() {
        Check.sentence("Term 3: A SLOT in several WORKS, or once more in one, is in it once");
        StoreBufferHeap heap = Scenes.inWorkAndWhite();
        heap.leave(0);
        Check.same("white", heap.colour(0), 1);
        Scenes.goes(heap, "1 b");
        Scenes.goes(heap, "010 0a 010 0a0a 010 0");
        Check.same("asked for ROOTS", heap.about(1, 2), 1);
        Scenes.goes(heap, "111");
        Check.same("marked once more", heap.work(1), 1);
        Scenes.goes(heap, "1 0");
        Check.same("handed over once", heap.work(0), 1);
        Scenes.goes(heap, "00 0");
        Check.same("gone by one scan", heap.work(0), 0);
        Scenes.goes(heap, "0");
        Check.same("asks for WORK", heap.about(1, 2), 1);
    }

    private static void aboutThreads() {
        Check.sentence("17: NONE: there is none such");
        for (int mutators = 1; mutators <= 3; mutators++) {
            StoreBufferHeap heap = new StoreBufferHeap();
            heap.heap(mutators, 1, 1, 1);
            for (int what = 0; what <= 4; what++) {
                for (int t = 0; t <= 4; t++) {
                    boolean there = t <= mutators;
                    Check.same("about(" + t + ", " + what + ")", heap.about(t, what) >= 0 ? 1 : 0,
                        there ? 1 : 0);
                }
                Check.same("about(-1, " + what + ")", heap.about(-1, what), -1);
                Check.same("about(4, " + what + ")", heap.about(4, what), -1);
            }
            for (int far : FAR) {
                Check.same("about(" + far + ", 0)", heap.about(far, 0), -1);
            }
        }
    }

    private static void aboutOthers() {
        Check.sentence("17: NONE for another what");
        StoreBufferHeap heap = new StoreBufferHeap();
        for (int t = 0; t <= 1; t++) {
            for (int far : FAR) {
                Check.same("about(" + t + ", " + far + ")", heap.about(t, far), -1);
            }
            Check.same("about(" + t + ", 5)", heap.about(t, 5), -1);
            Check.same("about(" + t + ", 4)", heap.about(t, 4), 0);
            Check.same("about(" + t + ", 0)", heap.about(t, 0), 0);
        }
    }

    private static void aboutLines() {
        Check.sentence("17: what 0: of a MUTATOR its LINE that is next, or being done (how many LINES, "
            + "behind the last one)");
        StoreBufferHeap heap = Scenes.heapOf(2, 2, 1, "new 0;store 0 0 0;see 0;");
        int[] lines = {0, 1, 1, 1, 2, 3};
        for (int i = 0; i < lines.length; i++) {
            Check.same("after " + i, heap.about(1, 0), lines[i]);
            Check.same("STEP " + i, heap.does(1) ? 1 : 0, i < 5 ? 1 : 0);
        }
        Check.same("behind the last one", heap.about(1, 0), 3);
        Scenes.goes(heap, "0b1");
        Check.same("an answer is no LINE", heap.about(1, 0), 3);
        Check.same("without LINES", Check.script(heap, 1, " "), 0);
        Check.same("without LINES", heap.about(1, 0), 0);
    }

    private static void aboutRounds() {
        Check.sentence("17: of the COLLECTOR how many ROUNDS were done");
        StoreBufferHeap heap = Scenes.heapOf(1, 1, 1, "");
        for (int round = 0; round < 3; round++) {
            Check.same("ROUNDS", heap.about(0, 0), round);
            Scenes.goes(heap, TO_ROOTS + "10 010 0a 0");
            Check.same("not yet", heap.about(0, 0), round);
            Scenes.goes(heap, "0");
            Check.same("by the STEP that WRITES PHASE idle", heap.about(0, 0), round + 1);
            Scenes.goes(heap, "a");
        }
    }

    private static void aboutBetween() {
        Check.sentence("17: what 1: 1 if it is between two LINES, and answers no HANDSHAKE (COLLECTOR: 0), "
            + "else 0");
        StoreBufferHeap heap = Scenes.heapOf(1, 2, 1, "new 0;store 0 0 0;");
        int[] due = {1, 1, 0, 0, 1};
        for (int i = 0; i < due.length; i++) {
            Check.same("after " + i, heap.about(1, 1), due[i]);
            Check.same("of the COLLECTOR", heap.about(0, 1), 0);
            heap.does(1);
        }
        Scenes.goes(heap, "b" + TO_ROOTS);
        Check.same("asked, and no STEP of it done", heap.about(1, 1), 1);
        for (int i = 0; i < 3; i++) {
            Scenes.goes(heap, "1");
            Check.same("answers", heap.about(1, 1), 0);
        }
        Scenes.goes(heap, "1");
        Check.same("has answered", heap.about(1, 1), 1);
        Check.same("of the COLLECTOR", heap.about(0, 1), 0);
    }

    private static void aboutAsked() {
        Check.sentence("17: what 2: of a MUTATOR 1 if it is asked and has not answered, else 0; of the "
            + "COLLECTOR how many have not");
        StoreBufferHeap heap = new StoreBufferHeap();
        heap.heap(3, 1, 1, 1);
        for (int t = 0; t <= 3; t++) {
            Check.same("nobody asks", heap.about(t, 2), 0);
        }
        Scenes.goes(heap, "0");
        for (int t = 0; t <= 3; t++) {
            Check.same("all are asked", heap.about(t, 2), t == 0 ? 3 : 1);
        }
        Scenes.goes(heap, "2");
        int[] due = {2, 1, 0, 1};
        for (int t = 0; t <= 3; t++) {
            Check.same("2 has answered", heap.about(t, 2), due[t]);
        }
        Scenes.goes(heap, "31");
        for (int t = 0; t <= 3; t++) {
            Check.same("all have answered", heap.about(t, 2), 0);
        }
    }

    private static void aboutBlocked() {
        Check.sentence("17: what 3: 1 if its next STEP is BLOCKED, else 0");
        StoreBufferHeap heap = Scenes.heapOf(1, 2, 1, "new 0;new 1;store 0 0 1;store 0 0 0;");
        StringBuilder schedule = new StringBuilder();
        String signs = "01a0b1100b1a1b0";
        for (int i = 0; i < 60; i++) {
            schedule.append(signs.charAt(i % signs.length()));
        }
        int blocked = 0;
        for (int i = 0; i < 60; i++) {
            int entry = schedule.charAt(i) < 'a' ? schedule.charAt(i) - '0' : 8 + schedule.charAt(i) - 'a';
            int told = entry < 8 ? heap.about(entry, 3) : 0;
            boolean done = heap.does(entry);
            if (entry < 8) {
                Check.same("told before entry " + i, told, done ? 0 : 1);
                blocked += told;
            }
        }
        Check.isTrue("some were, some were not", blocked > 3 && blocked < 40);
    }

    private static void aboutSteps() {
        Check.sentence("17: what 4: how many STEPS it did");
        StoreBufferHeap heap = Scenes.heapOf(1, 1, 1, "new 0;new 0;");
        Check.same("none", heap.about(1, 4), 0);
        Scenes.goes(heap, "1");
        Check.same("one", heap.about(1, 4), 1);
        Check.isFalse("BLOCKED", heap.does(1));
        Check.same("a BLOCKED one is none", heap.about(1, 4), 1);
        Scenes.goes(heap, "01");
        Check.same("an answer is one", heap.about(1, 4), 2);
        Scenes.goes(heap, "00a");
        Check.same("a COMMIT is none", heap.about(0, 4), 3);
        heap.about(0, 3);
        heap.worst(3, 0);
        Check.same("nor is what is only looked at", heap.about(0, 4), 3);
    }
}
