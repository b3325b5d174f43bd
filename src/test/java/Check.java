import java.nio.charset.StandardCharsets;

/** What the tests share: comparing answers, and speaking to a StoreBufferHeap in texts. */
final class Check {
    private static int wrong = 0;
    private static int asked = 0;
    private static String sentence = "";
    private static int askedOfSentence = 0;

    private Check() {
    }

    static void same(String what, long got, long want) {
        asked++;
        if (got != want) {
            wrong++;
            if (wrong <= 40) {
                System.out.println(sentence + what + " answered " + got + ", due is " + want);
            }
        }
    }

    static void sameText(String what, String got, String want) {
        boolean alike = got.equals(want);
        isTrue(alike ? what : what + ": " + got + ", due is " + want + ";", alike);
    }

    /** What follows looks at this sentence of the document, on both sides of its boundary. */
    static void sentence(String told) {
        closeSentence();
        sentence = "[" + told + "] ";
        askedOfSentence = asked;
    }

    private static void closeSentence() {
        if (!sentence.isEmpty()) {
            isTrue("looked at on both sides", asked - askedOfSentence >= 2);
        }
    }

    static void isTrue(String what, boolean got) {
        same(what, got ? 1 : 0, 1);
    }

    static void isFalse(String what, boolean got) {
        same(what, got ? 1 : 0, 0);
    }

    static int wrongSoFar() {
        return wrong;
    }

    /** Ends the test: the exit code tells whether all answers were as due. */
    static void end() {
        closeSentence();
        System.out.println(asked + " answers looked at, " + wrong + " not as due");
        if (wrong != 0 || asked == 0) {
            System.exit(1);
        }
    }

    /** The tape is this text and nothing else. */
    static void tape(StoreBufferHeap heap, String text) {
        byte[] bytes = text.getBytes(StandardCharsets.ISO_8859_1);
        heap.end(0);
        for (int from = 0; from < bytes.length; from += 20) {
            int[] words = new int[5];
            for (int i = 0; i < 20; i++) {
                int sign = from + i < bytes.length ? bytes[from + i] & 255 : 0;
                words[i / 4] |= sign << (24 - 8 * (i % 4));
            }
            heap.feed(words[0], words[1], words[2], words[3], words[4]);
        }
        heap.end(bytes.length);
    }

    static int script(StoreBufferHeap heap, int mutator, String text) {
        tape(heap, text);
        return heap.script(mutator);
    }

    static int trial(StoreBufferHeap heap, String text) {
        tape(heap, text);
        return heap.trial();
    }

    static int run(StoreBufferHeap heap, String schedule) {
        tape(heap, schedule);
        return heap.run();
    }
}
