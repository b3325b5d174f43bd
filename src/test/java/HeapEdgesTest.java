/** Boundary sentences of the first page, of Term 1's numbers, of promises 1 to 3 and 29 to 31. */
public final class HeapEdgesTest {
    private static final int[] FAR = {Integer.MIN_VALUE, -2, -1, 99, Integer.MAX_VALUE};

    public static void main(String[] args) {
        fiveHundredTwelveCalls();
        none();
        newObject();
        newObjectHasOneOfEach();
        atFirst();
        heapNumbers();
        heapRefused();
        heapAnew();
        heapAnewAtAnyTime();
        heapAnewAfterALoss();
        heapLetsStay();
        serialsBeginAnew();
        leaveBits();
        leaveFromNowOn();
        leaveIsNoneOfOthers();
        countWhat();
        countsOfSeen();
        countOfFree();
        imageNumbers();
        againWithoutImage();
        imagesHoldTheTape();
        imagesHoldTheFault();
        imagesHoldTheTrial();
        imagesHoldTheHeap();
        imagesHoldWritesAndLosses();
        imagesInTheMiddle();
        otherImagesStay();
        imagesAreTakenAnew();
        Check.end();
    }

    private static void fiveHundredTwelveCalls() {
        Check.sentence("An object is used for at most 512 calls after it has been made");
        StoreBufferHeap heap = new StoreBufferHeap();
        Check.isTrue("call 1", heap.heap(1, 1, 2, 1));
        Check.same("call 2", heap.feed(0x6E657720, 0x303B7365, 0x6520303B, 0x676F2031, 0x3B202020), 20);
        Check.same("call 3", heap.script(1), 3);
        for (int call = 4; call <= 508; call++) {
            Check.isTrue("call " + call, heap.does(1));
        }
        Check.same("call 509", heap.about(1, 4), 505);
        Check.same("call 510", heap.count(11), 252);
        Check.same("call 511", heap.seen(1, 31), 0);
        Check.same("call 512", heap.worst(3, 0), 0);
    }

    private static void none() {
        Check.sentence("NONE = -1: There is none");
        Check.same("NONE", StoreBufferHeap.NONE, -1);
        Check.same("there is none", new StoreBufferHeap().serial(0), StoreBufferHeap.NONE);
    }

    private static void newObject() {
        Check.sentence("1: A HEAP of one MUTATOR, BUFFERS of 1, one SLOT, one FIELD");
        StoreBufferHeap heap = new StoreBufferHeap();
        StoreBufferHeap other = new StoreBufferHeap();
        Check.isTrue("heap(1, 1, 1, 1)", other.heap(1, 1, 1, 1));
        Check.sameText("as heap(1, 1, 1, 1)", Told.ofHeap(heap), Told.ofHeap(other));
        Check.sentence("1: no SCRIPTS; nothing left away; no images");
        Check.same("no SCRIPT: behind the last LINE", heap.about(1, 0), 0);
        Check.same("no SCRIPT: no STEP left", heap.about(1, 3), 1);
        Check.same("nothing left away", heap.count(8), 0);
        for (int k = 0; k < 3; k++) {
            Check.isFalse("no image " + k, heap.again(k));
        }
        Check.same("no tape", heap.end(1), -1);
        Check.same("an empty tape", heap.end(0), 0);
        Check.sameText("no FAULT, no TRIAL", Told.ofTexts(heap), "0 -1 0 0 -1 -1 -1");
    }

    private static void newObjectHasOneOfEach() {
        Check.sentence("1: one of each, and no second one");
        StoreBufferHeap heap = new StoreBufferHeap();
        Check.same("MUTATOR 1", heap.root(1, 0, false), -2);
        Check.same("MUTATOR 2", heap.root(2, 0, false), -1);
        Check.same("SLOT 0", heap.colour(0), 0);
        Check.same("SLOT 1", heap.colour(1), -1);
        Check.same("FIELD 0", heap.cell(1, 0, 0), -2);
        Check.same("FIELD 1", heap.cell(1, 0, 1), -1);
        Check.script(heap, 1, "new 0;store 0 0 1;store 0 0 1;");
        Check.same("one WRITE waits, a second is BLOCKED", Check.run(heap, "11111"), 4);
        Check.same("waits", heap.waits(1), 1);
    }

    private static void atFirst() {
        Check.sentence("Term 1: At first all FLAGS, PHASE, MARK, COLOUR are 0, all FIELDS NIL, "
            + "all SLOTS free, all BUFFERS empty");
        StoreBufferHeap heap = new StoreBufferHeap();
        heap.heap(3, 4, 8, 3);
        for (int slot = 0; slot < 8; slot++) {
            Check.same("FLAG " + slot, heap.cell(0, slot, 0), 0);
            Check.same("free " + slot, heap.colour(slot), 0);
            for (int f = 0; f < 3; f++) {
                Check.same("FIELD " + slot + " " + f, heap.cell(1, slot, f), -2);
            }
        }
        for (int sort = 3; sort <= 5; sort++) {
            Check.same("cell " + sort, heap.cell(sort, 0, 0), 0);
        }
        for (int t = 0; t <= 3; t++) {
            Check.same("BUFFER " + t, heap.waits(t), 0);
            Check.same("WORK " + t, heap.work(t), 0);
        }
        Check.same("all SLOTS free", heap.count(7), 8);
    }

    private static void heapNumbers() {
        Check.sentence("Term 1: MUTATORS 1 to 3, B 1 to 4, S 1 to 8, F 1 to 3");
        int[] most = {3, 4, 8, 3};
        for (int which = 0; which < 4; which++) {
            for (int number = -1; number <= most[which] + 2; number++) {
                boolean fits = number >= 1 && number <= most[which];
                heapWith(which, number, fits);
            }
            for (int far : FAR) {
                heapWith(which, far, false);
            }
        }
        StoreBufferHeap heap = new StoreBufferHeap();
        Check.isTrue("the most of all", heap.heap(3, 4, 8, 3));
        Check.isTrue("the least of all", heap.heap(1, 1, 1, 1));
    }

    private static void heapWith(int which, int number, boolean fits) {
        StoreBufferHeap heap = new StoreBufferHeap();
        int[] asked = {2, 2, 2, 2};
        asked[which] = number;
        boolean got = heap.heap(asked[0], asked[1], asked[2], asked[3]);
        Check.same("heap with " + number + " as number " + which, got ? 1 : 0, fits ? 1 : 0);
        for (int i = 0; i < 4; i++) {
            Check.same("count(" + i + ")", heap.count(i), fits ? asked[i] : 1);
        }
    }

    /** A HEAP in which nearly everything has been used. */
    private static StoreBufferHeap used() {
        StoreBufferHeap heap = new StoreBufferHeap();
        heap.heap(2, 2, 3, 2);
        Check.script(heap, 1, "new 0;new 1;store 0 1 1;see 1;store 1 0 0;drop 1;new 2;");
        Check.script(heap, 2, "see 3;new 3;store 3 0 3;");
        heap.leave(6);
        heap.fair(60);
        Check.trial(heap, "party;put 0 1;party;get 0 0;");
        Check.script(heap, 1, "new 4;");
        return heap;
    }

    private static void heapRefused() {
        Check.sentence("2: false: other numbers, nothing changes");
        StoreBufferHeap heap = used();
        String before = Told.ofHeap(heap) + Told.ofTexts(heap);
        Check.isFalse("no MUTATOR", heap.heap(0, 1, 1, 1));
        Check.isFalse("nine SLOTS", heap.heap(1, 1, 9, 1));
        Check.sameText("nothing changes", Told.ofHeap(heap) + Told.ofTexts(heap), before);
        Check.isTrue("it was used", heap.count(4) > 1 && heap.about(0, 0) > 0);
    }

    private static void heapAnew() {
        Check.sentence("2: A HEAP anew, as at first");
        StoreBufferHeap heap = used();
        StoreBufferHeap fresh = new StoreBufferHeap();
        Check.isTrue("anew", heap.heap(2, 2, 3, 2));
        fresh.heap(2, 2, 3, 2);
        Check.sameText("as a new object's", Told.ofHeap(heap), Told.ofHeap(fresh));
        Check.same("nothing left away", heap.count(8), 0);
        Check.same("runs as a new one", heap.fair(30), fresh.fair(30));
        Check.sameText("and comes to the same", Told.ofHeap(heap), Told.ofHeap(fresh));
    }

    /** In the middle of stores, marks, answers, scans and sweeps, with WRITES that wait. */
    private static void heapAnewAtAnyTime() {
        Check.sentence("2: A HEAP anew, as at first, whatever it was doing");
        String script = "new 0;new 1;store 0 1 1;store 1 0 0;load 1 0 1;store 0 1 3;see 0;drop 1;go 1;";
        for (int steps = 1; steps <= 150; steps++) {
            StoreBufferHeap heap = new StoreBufferHeap();
            heap.heap(2, 2, 5, 2);
            Check.script(heap, 1, script);
            Check.script(heap, 2, script);
            Check.run(heap, "012112b2021ca".repeat(12).substring(0, steps));
            beginsAnew(heap, script);
        }
        for (int turns = 1; turns <= 80; turns++) {
            StoreBufferHeap heap = new StoreBufferHeap();
            heap.heap(1, 2, 5, 2);
            Check.script(heap, 1, script);
            heap.fair(turns);
            beginsAnew(heap, script);
        }
    }

    private static void beginsAnew(StoreBufferHeap heap, String script) {
        StoreBufferHeap fresh = new StoreBufferHeap();
        Check.isTrue("anew", heap.heap(1, 2, 5, 2));
        fresh.heap(1, 2, 5, 2);
        Check.sameText("as a new one", Told.ofHeap(heap), Told.ofHeap(fresh));
        Check.script(heap, 1, script);
        Check.script(fresh, 1, script);
        Check.same("runs as a new one", heap.fair(80), fresh.fair(80));
        Check.sameText("comes to the same", Told.ofHeap(heap), Told.ofHeap(fresh));
    }

    private static void heapAnewAfterALoss() {
        Check.sentence("2: A HEAP anew: what was freed, what was STRAY, what was SEEN is counted anew");
        StoreBufferHeap heap = Scenes.aheadOfTheSweep(1, 1, 1, "new 0;load 1 0 0;see 0;", 1);
        Scenes.goes(heap, "0 11");
        int[] counts = {4, 5, 6, 11};
        for (int what : counts) {
            Check.same("count(" + what + ")", heap.count(what), 1);
        }
        Check.same("LOST", heap.lost(), 1);
        heap.heap(1, 1, 1, 1);
        for (int what : counts) {
            Check.same("count(" + what + ")", heap.count(what), 0);
        }
        Check.same("LOST", heap.lost(), 0);
        Check.same("SEEN", heap.seen(1, 0), -2);
    }

    private static void heapLetsStay() {
        Check.sentence("2: The tape, the FAULT, the TRIAL and images stay");
        StoreBufferHeap heap = used();
        heap.image(1);
        String texts = Told.ofTexts(heap);
        Check.tape(heap, "party;party;");
        Check.isTrue("anew", heap.heap(1, 1, 1, 1));
        Check.sameText("FAULT and TRIAL", Told.ofTexts(heap), texts);
        Check.same("the FAULT", heap.fault(0), 2);
        Check.same("the tape is no longer", heap.end(13), -1);
        Check.same("the tape is as long", heap.end(12), 12);
        Check.same("the tape has its bytes", heap.trial(), 2);
        Check.isFalse("image 0 never was", heap.again(0));
        Check.isTrue("image 1 is there", heap.again(1));
        Check.same("and has the old HEAP", heap.count(0), 2);
    }

    private static void serialsBeginAnew() {
        Check.sentence("Term 1: OBJECTS ever made have SERIALS 0, 1, 2, ..");
        StoreBufferHeap heap = new StoreBufferHeap();
        heap.heap(2, 1, 3, 1);
        Check.script(heap, 1, "new 0;new 0;");
        Check.script(heap, 2, "new 0;");
        Check.same("three of two MUTATORS", Check.run(heap, "121"), 3);
        for (int slot = 0; slot < 3; slot++) {
            Check.same("serial(" + slot + ")", heap.serial(slot), slot);
        }
        Check.same("of MUTATOR 2", heap.root(2, 0, true), 1);
        heap.fair(60);
        Check.same("SLOT 0 was freed", heap.colour(0), 0);
        Check.script(heap, 2, "new 1;");
        heap.fair(3);
        Check.same("a used SLOT, a new SERIAL", heap.serial(0), 3);
        heap.heap(1, 1, 1, 1);
        Check.same("none", heap.serial(0), -1);
        Check.script(heap, 1, "new 0;");
        heap.does(1);
        Check.same("anew from 0 on", heap.serial(0), 0);
    }

    private static void leaveBits() {
        Check.sentence("3: bits: 1 DELETION, 2 INSERTION, 4 FENCES: true; false: other bits");
        StoreBufferHeap heap = new StoreBufferHeap();
        for (int bits = 0; bits <= 7; bits++) {
            Check.isTrue("leave(" + bits + ")", heap.leave(bits));
            Check.same("what is left away", heap.count(8), bits);
        }
        heap.leave(5);
        for (int bits : new int[] {-1, 8, 9, 16, -8, Integer.MIN_VALUE, Integer.MAX_VALUE}) {
            Check.isFalse("leave(" + bits + ")", heap.leave(bits));
            Check.same("what is left away", heap.count(8), 5);
        }
    }

    /** Ahead of a store over an OBJECT of an OBJECT, with PHASE init and both of them white. */
    private static StoreBufferHeap aheadOfAStore() {
        StoreBufferHeap heap = new StoreBufferHeap();
        heap.heap(1, 2, 4, 1);
        Check.script(heap, 1, "new 0;new 1;store 0 0 1;new 2;store 0 0 2;see 0;");
        Check.same("0 holds 1", Check.run(heap, "11111b1"), 7);
        Check.same("up to init", Check.run(heap, "0100a0100a"), 10);
        return heap;
    }

    private static int stepsToBetween(StoreBufferHeap heap) {
        int steps = 0;
        while (steps < 20 && heap.about(1, 1) == 0 && heap.does(1)) {
            steps++;
        }
        return steps;
    }

    private static void leaveFromNowOn() {
        Check.sentence("3: What is left away from now on");
        int[] due = {7, 4, 4, 1};
        int[] marked = {6, 4, 2, 0};
        for (int bits = 0; bits < 4; bits++) {
            StoreBufferHeap heap = aheadOfAStore();
            heap.does(1);
            heap.leave(bits);
            Check.same("behind the READ, leave(" + bits + ")", stepsToBetween(heap), due[bits]);
            Check.same("WORK", heap.work(1), marked[bits]);
        }
        StoreBufferHeap begun = aheadOfAStore();
        Check.same("the first mark has begun", Check.run(begun, "11"), 2);
        begun.leave(3);
        Check.same("it goes on, the second never comes", stepsToBetween(begun), 3);
        Check.same("WORK", begun.work(1), 2);
        StoreBufferHeap past = aheadOfAStore();
        past.leave(1);
        Check.same("DELETION was left away, the second mark has begun", Check.run(past, "11"), 2);
        past.leave(0);
        Check.same("DELETION does not come after it", stepsToBetween(past), 3);
        Check.same("WORK", past.work(1), 4);
        StoreBufferHeap back = aheadOfAStore();
        back.leave(3);
        back.leave(0);
        back.does(1);
        Check.same("taken back", stepsToBetween(back), 7);
    }

    private static void leaveIsNoneOfOthers() {
        Check.sentence("3: each bit leaves away what it names alone");
        for (int bits = 0; bits < 8; bits++) {
            StoreBufferHeap heap = aheadOfAStore();
            heap.leave(bits);
            Check.isTrue("READ", heap.does(1));
            int barriers = 2 - Integer.bitCount(bits & 3);
            Check.same("store with leave(" + bits + ")", stepsToBetween(heap), 1 + 3 * barriers);
            Check.same("a WRITE waits", heap.waits(1), 1);
            Check.isTrue("ask", heap.does(0));
            Check.same("answer undrained", heap.does(1) ? 1 : 0, bits >> 2);
        }
    }

    private static void countWhat() {
        Check.sentence("29: 0 MUTATORS, 1 B, 2 S, 3 F, 4 OBJECTS ever made, 5 SLOTS freed ever, "
            + "6 STRAY ones, 7 free SLOTS, 8 what is left away; -2: there is none such");
        StoreBufferHeap heap = new StoreBufferHeap();
        heap.heap(2, 4, 8, 3);
        heap.leave(3);
        Check.script(heap, 1, "new 0;new 1;new 2;drop 1;see 0;");
        heap.fair(70);
        int[] due = {2, 4, 8, 3, 3, 1, 0, 6, 3, -2, -2, 1, 0, -2, -2};
        for (int what = 0; what < due.length; what++) {
            Check.same("count(" + what + ")", heap.count(what), due[what]);
        }
        for (int far : FAR) {
            Check.same("count(" + far + ")", heap.count(far), -2);
        }
    }

    private static void countsOfSeen() {
        Check.sentence("29: 10 + m: SEEN by MUTATOR m, ever");
        for (int mutators = 1; mutators <= 3; mutators++) {
            StoreBufferHeap heap = new StoreBufferHeap();
            heap.heap(mutators, 1, 1, 1);
            for (int m = 1; m <= mutators; m++) {
                Check.script(heap, m, "see 0;".repeat(m));
            }
            Check.same("all see", Check.run(heap, "123123123"), mutators * (mutators + 1) / 2);
            Check.same("the COLLECTOR sees nothing", heap.count(10), -2);
            for (int m = 1; m <= 4; m++) {
                Check.same("count(1" + m + ")", heap.count(10 + m), m <= mutators ? m : -2);
            }
        }
    }

    private static void countOfFree() {
        Check.sentence("29: 7 free SLOTS, from all of them to none");
        StoreBufferHeap heap = new StoreBufferHeap();
        heap.heap(1, 1, 8, 1);
        Check.script(heap, 1, "new 0;go 0;");
        for (int made = 0; made < 8; made++) {
            Check.same("made " + made, heap.count(4), made);
            Check.same("free", heap.count(7), 8 - made);
            Check.same("new, go", Check.run(heap, "11"), 2);
        }
        Check.same("none is free", heap.count(7), 0);
        Check.isFalse("a ninth", heap.does(1));
        Check.same("made", heap.count(4), 8);
    }

    private static void imageNumbers() {
        Check.sentence("30: Image k (0 .. 2): true; false for another k");
        StoreBufferHeap heap = new StoreBufferHeap();
        for (int k = 0; k <= 2; k++) {
            Check.isTrue("image(" + k + ")", heap.image(k));
            Check.isTrue("again(" + k + ")", heap.again(k));
        }
        for (int k : new int[] {-1, 3, 4, Integer.MIN_VALUE, Integer.MAX_VALUE}) {
            Check.isFalse("image(" + k + ")", heap.image(k));
            Check.isFalse("again(" + k + ")", heap.again(k));
        }
    }

    private static void againWithoutImage() {
        Check.sentence("31: false if there is none such");
        for (int taken = 0; taken <= 2; taken++) {
            StoreBufferHeap heap = used();
            heap.image(taken);
            heap.does(0);
            String before = Told.ofHeap(heap);
            for (int k = -1; k <= 3; k++) {
                if (k != taken) {
                    Check.isFalse("again(" + k + ")", heap.again(k));
                }
            }
            Check.sameText("nothing changes", Told.ofHeap(heap), before);
            Check.isTrue("again(" + taken + ")", heap.again(taken));
        }
    }

    private static void imagesHoldTheTape() {
        Check.sentence("30: all that is told (the tape, too)");
        StoreBufferHeap heap = new StoreBufferHeap();
        heap.image(0);
        Check.tape(heap, "new 0;new 4;");
        heap.image(1);
        Check.tape(heap, "see 0;".repeat(66) + "    ");
        heap.image(2);
        Check.isTrue("again(1)", heap.again(1));
        Check.same("no more bytes", heap.end(13), -1);
        Check.same("as many bytes", heap.end(12), 12);
        Check.same("the same text", heap.script(1), -1);
        Check.same("the same text", heap.fault(0), 2);
        Check.same("the same text", heap.fault(1), 10);
        Check.isTrue("again(2)", heap.again(2));
        Check.same("full", heap.feed(0, 0, 0, 0, 0), -1);
        Check.same("the same text", heap.script(1), -1);
        Check.same("the same text", heap.fault(1), 120);
        Check.isTrue("again(0)", heap.again(0));
        Check.same("empty", heap.end(1), -1);
        Check.same("empty", heap.end(0), 0);
    }

    private static void imagesHoldTheFault() {
        Check.sentence("30: all that is told (the FAULT, too)");
        StoreBufferHeap heap = new StoreBufferHeap();
        heap.image(0);
        Check.script(heap, 1, "new 4;");
        heap.image(1);
        Check.script(heap, 1, "new 0;");
        heap.again(1);
        Check.same("a FAULT", heap.fault(0), 2);
        Check.same("its place", heap.fault(1), 4);
        heap.again(0);
        Check.same("none", heap.fault(0), 0);
        Check.same("no place", heap.fault(1), -1);
    }

    private static void imagesHoldTheTrial() {
        Check.sentence("30: all that is told: the TRIAL");
        StoreBufferHeap heap = new StoreBufferHeap();
        heap.image(0);
        Check.trial(heap, "party;put 0 1;");
        heap.image(1);
        Check.trial(heap, "party;put 0 1;put 1 2;");
        heap.image(2);
        int[] due = {0, 3, 6};
        for (int k : new int[] {2, 1, 0, 1, 2, 0}) {
            heap.again(k);
            Check.same("STATES of image " + k, heap.states(false), due[k]);
            Check.same("OUTCOMES of image " + k, heap.outcomes(0), k == 0 ? -1 : 1);
        }
    }

    private static void imagesHoldTheHeap() {
        Check.sentence("31: All that is as image k has it");
        StoreBufferHeap heap = used();
        String before = Told.ofHeap(heap);
        heap.image(0);
        heap.heap(3, 4, 8, 3);
        heap.leave(7);
        Check.script(heap, 3, "new 0;store 0 0 0;see 0;");
        heap.fair(9);
        heap.again(0);
        Check.sameText("as it was", Told.ofHeap(heap), before);
        int done = heap.fair(50);
        heap.again(0);
        Check.same("it goes on as it did", heap.fair(50), done);
    }

    private static void imagesHoldWritesAndLosses() {
        Check.sentence("31: All that is as image k has it: WRITES that wait, what was SEEN, STRAY, freed");
        StoreBufferHeap heap = Scenes.aheadOfTheSweep(1, 2, 2, "new 0;new 1;see 1;store 0 1 1;", 5);
        Check.script(heap, 1, "load 2 0 0;");
        Scenes.goes(heap, "00 1");
        Check.same("a WRITE waits", heap.waits(1), 1);
        Check.same("STRAY", heap.count(6), 1);
        String before = Told.ofHeap(heap);
        heap.image(1);
        heap.heap(1, 1, 2, 2);
        Check.script(heap, 1, "see 3;see 3;new 0;store 0 0 3;");
        Scenes.goes(heap, "11111");
        Check.same("another WRITE waits", heap.waits(1), 1);
        Check.isTrue("again", heap.again(1));
        Check.sameText("as it was", Told.ofHeap(heap), before);
        Scenes.goes(heap, "b");
        Check.same("the WRITE is the old one", heap.cell(1, 0, 1), 1);
        markGoesOnAsItWas();
    }

    /** The image is taken between the READ of MARK and the exchange; the other HEAP has MARK 0. */
    private static void markGoesOnAsItWas() {
        StoreBufferHeap heap = aheadOfAStore();
        Scenes.goes(heap, "111");
        heap.image(2);
        heap.heap(1, 2, 4, 1);
        Check.script(heap, 1, "new 0;store 0 0 0;");
        Scenes.goes(heap, "111");
        heap.again(2);
        Scenes.goes(heap, "1");
        Check.same("FLAG is MARK as it was READ", heap.cell(0, 1, 0), 1);
        Check.same("WORK", heap.work(1), 2);
    }

    /** In the middle of a store, of a mark and of an answer: the image goes on from there. */
    private static void imagesInTheMiddle() {
        Check.sentence("30: as it is now, in the middle of a store, a mark, an answer, a scan, a sweep");
        StoreBufferHeap heap = new StoreBufferHeap();
        heap.heap(1, 1, 3, 2);
        Check.script(heap, 1, "new 0;new 1;store 0 0 1;drop 1;new 1;drop 1;store 0 1 0;go 2;");
        heap.fair(2);
        StoreBufferHeap twin = new StoreBufferHeap();
        twin.heap(1, 1, 3, 2);
        Check.script(twin, 1, "new 0;new 1;store 0 0 1;drop 1;new 1;drop 1;store 0 1 0;go 2;");
        twin.fair(2);
        for (int i = 0; i < 80; i++) {
            heap.image(i % 3);
            heap.fair(7);
            Check.isTrue("again", heap.again(i % 3));
            Check.same("after " + i, heap.fair(1), twin.fair(1));
        }
        Check.sameText("never another way", Told.ofHeap(heap), Told.ofHeap(twin));
        Check.isTrue("a ROUND was done", heap.about(0, 0) > 0);
    }

    private static void otherImagesStay() {
        Check.sentence("31: other images stay");
        StoreBufferHeap heap = new StoreBufferHeap();
        for (int k = 0; k < 3; k++) {
            heap.heap(k + 1, 1, 1, 1);
            heap.image(k);
        }
        for (int k : new int[] {0, 2, 1, 1, 0, 2}) {
            Check.isTrue("again(" + k + ")", heap.again(k));
            Check.same("of image " + k, heap.count(0), k + 1);
            heap.does(0);
        }
        Check.same("not touched by what came after", heap.about(0, 4), 1);
        heap.again(2);
        Check.same("not touched by what came after", heap.about(0, 4), 0);
    }

    private static void imagesAreTakenAnew() {
        Check.sentence("30: Image k is all that is told, as it is now (a later one is in its place)");
        StoreBufferHeap heap = new StoreBufferHeap();
        heap.image(2);
        heap.does(0);
        heap.image(2);
        heap.does(1);
        Check.isTrue("again", heap.again(2));
        Check.same("of the later one", heap.about(0, 4), 1);
        Check.same("of the later one", heap.about(1, 4), 0);
    }
}
