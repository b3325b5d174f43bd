/** HEAPS that several tests set out from, and schedules of which every ENTRY must be done. */
final class Scenes {
    private Scenes() {
    }

    static void goes(StoreBufferHeap heap, String schedule) {
        Check.same("'" + schedule + "'", Check.run(heap, schedule), schedule.replace(" ", "").length());
    }

    /** Of one MUTATOR, with this SCRIPT. */
    static StoreBufferHeap heapOf(int buffer, int slots, int fields, String script) {
        StoreBufferHeap heap = new StoreBufferHeap();
        heap.heap(1, buffer, slots, fields);
        Check.isTrue("'" + script + "'", Check.script(heap, 1, script) >= 0);
        return heap;
    }

    /**
     * With all left away: COLOUR waits while MUTATOR 1 makes OBJECTS, so they are white, and no root
     * is asked for any more. The next STEPS of the COLLECTOR sweep SLOT by SLOT.
     */
    static StoreBufferHeap aheadOfTheSweep(int mutators, int slots, int fields, String script, int steps) {
        StoreBufferHeap heap = new StoreBufferHeap();
        heap.heap(mutators, 1, slots, fields);
        heap.leave(7);
        String asked = "0" + "123".substring(0, mutators) + "0";
        goes(heap, asked + "0" + asked + "a0" + asked + "a0a0" + asked + asked);
        Check.isTrue("'" + script + "'", Check.script(heap, 1, script) >= 0);
        for (int i = 0; i < steps; i++) {
            Check.isTrue("STEP " + i + " of '" + script + "'", heap.does(1) || heap.does(9) && heap.does(1));
        }
        goes(heap, asked + "a0");
        Check.same("PHASE sweep waits", heap.write(0, 0, 3), 3);
        return heap;
    }

    /** Without FENCES: SLOT 0 is in WORK of MUTATOR 1, and its FLAG is not MARK. */
    static StoreBufferHeap inWorkAndWhite() {
        StoreBufferHeap heap = heapOf(4, 1, 1, "");
        heap.leave(4);
        goes(heap, "0100a 0100a 0100a 0 010 010 010 00");
        Check.script(heap, 1, "new 0;store 0 0 0;");
        goes(heap, "1 0 010 0 111 aaaa 1");
        Check.same("in WORK", heap.work(1), 1);
        Check.same("MARK", heap.cell(4, 0, 0), 0);
        Check.same("FLAG", heap.cell(0, 0, 0), 1);
        return heap;
    }
}
