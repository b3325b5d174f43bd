/** All that is told of a HEAP, in one text, to see that nothing has changed; and the other state. */
final class Told {
    private Told() {
    }

    /** What heap() makes anew. */
    static String ofHeap(StoreBufferHeap heap) {
        StringBuilder told = new StringBuilder();
        for (int what = 0; what <= 10 + heap.count(0); what++) {
            told.append(heap.count(what)).append(' ');
        }
        for (int t = 0; t <= heap.count(0); t++) {
            ofThread(told, heap, t);
        }
        for (int m = 1; m <= heap.count(0); m++) {
            ofMutator(told, heap, m);
        }
        for (int slot = 0; slot < heap.count(2); slot++) {
            told.append("| slot ").append(heap.colour(slot)).append(' ').append(heap.serial(slot));
            told.append(' ').append(heap.cell(0, slot, 0)).append(' ');
            for (int f = 0; f < heap.count(3); f++) {
                told.append(heap.cell(2, slot, f)).append('@').append(heap.cell(1, slot, f)).append(' ');
            }
        }
        for (int sort = 3; sort <= 5; sort++) {
            told.append("| cell ").append(heap.cell(sort, 0, 0)).append(' ');
        }
        told.append("| ").append(heap.reached()).append(' ').append(heap.lost()).append(' ');
        return told.append(heap.harm()).toString();
    }

    private static void ofThread(StringBuilder told, StoreBufferHeap heap, int thread) {
        told.append("| thread ").append(heap.work(thread)).append(' ');
        for (int what = 0; what <= 4; what++) {
            told.append(heap.about(thread, what)).append(' ');
        }
        for (int k = 0; k < heap.waits(thread); k++) {
            for (int what = 0; what < 4; what++) {
                told.append(heap.write(thread, k, what)).append(what < 3 ? '.' : ' ');
            }
        }
    }

    private static void ofMutator(StringBuilder told, StoreBufferHeap heap, int mutator) {
        told.append("| roots ");
        for (int r = 0; r < 4; r++) {
            told.append(heap.root(mutator, r, true)).append('@').append(heap.root(mutator, r, false));
            told.append(' ');
        }
        for (int k = 0; k < heap.count(10 + mutator); k++) {
            told.append(heap.seen(mutator, k)).append(' ');
        }
    }

    /** What heap() lets stay, but for the tape and images. */
    static String ofTexts(StoreBufferHeap heap) {
        return heap.fault(0) + " " + heap.fault(1) + " " + heap.states(false) + " "
            + heap.states(true) + " " + heap.outcomes(0) + " " + heap.outcomes(1) + " "
            + heap.outcome(0, 0);
    }
}
