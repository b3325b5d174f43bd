import java.util.Random;

/** Any arguments in any state, beyond 512 calls too: no call throws. */
public final class WildTest {
    private static final int[] EDGES = {Integer.MIN_VALUE, Integer.MIN_VALUE + 1, -100, -3, -2, -1,
        10, 11, 12, 13, 14, 31, 32, 64, 199, 200, 201, 399, 400, 401, Integer.MAX_VALUE - 1,
        Integer.MAX_VALUE};
    private static final Random RANDOM = new Random(99);

    public static void main(String[] args) {
        for (int i = 0; i < 400; i++) {
            wildRun();
        }
        Check.isTrue("no call threw", true);
        Check.end();
    }

    private static int any() {
        return switch (RANDOM.nextInt(6)) {
            case 0 -> EDGES[RANDOM.nextInt(EDGES.length)];
            case 1 -> RANDOM.nextInt();
            default -> RANDOM.nextInt(5);
        };
    }

    private static void wildRun() {
        StoreBufferHeap heap = new StoreBufferHeap();
        for (int i = 0; i < 600; i++) {
            if (RANDOM.nextInt(4) == 0) {
                change(heap);
            } else {
                ask(heap, RANDOM.nextInt(24));
            }
        }
    }

    private static void change(StoreBufferHeap heap) {
        switch (RANDOM.nextInt(11)) {
            case 0 -> {
                if (RANDOM.nextInt(6) == 0) {
                    heap.heap(any(), any(), any(), any());
                }
            }
            case 1 -> heap.leave(any());
            case 2 -> Check.script(heap, 1 + RANDOM.nextInt(3),
                ScriptMaker.spoil(RANDOM, ScriptMaker.script(RANDOM, 1 + RANDOM.nextInt(3))));
            case 3 -> Check.trial(heap, ScriptMaker.spoil(RANDOM, ScriptMaker.trial(RANDOM)));
            case 4 -> heap.fair(any());
            case 5 -> heap.image(any());
            case 6 -> heap.again(any());
            case 7 -> heap.feed(RANDOM.nextInt(), any(), any(), any(), any());
            case 8 -> heap.run();
            default -> heap.fair(RANDOM.nextInt(20));
        }
    }

    private static void ask(StoreBufferHeap heap, int which) {
        switch (which) {
            case 0 -> heap.does(any());
            case 1 -> heap.end(any());
            case 2 -> heap.fault(any());
            case 3 -> heap.root(any(), any(), RANDOM.nextBoolean());
            case 4 -> heap.cell(any(), any(), any());
            case 5 -> heap.reads(any(), any(), any(), any());
            case 6 -> heap.waits(any());
            case 7 -> heap.write(any(), any(), any());
            case 8 -> heap.work(any());
            case 9 -> heap.about(any(), any());
            case 10 -> heap.colour(any());
            case 11 -> heap.serial(any());
            case 12 -> heap.reached();
            case 13 -> heap.lost();
            case 14 -> heap.harm();
            case 15 -> heap.seen(any(), any());
            case 16 -> heap.worst(any(), any());
            case 17 -> heap.states(RANDOM.nextBoolean());
            case 18 -> heap.outcomes(any());
            case 19 -> heap.outcome(any(), any());
            case 20 -> heap.count(any());
            case 21 -> heap.script(any());
            case 22 -> heap.trial();
            default -> heap.does(RANDOM.nextInt(12));
        }
    }
}
