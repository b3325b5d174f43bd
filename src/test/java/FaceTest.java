/** Promise 1: what a new object tells. */
public final class FaceTest {
    public static void main(String[] args) {
        StoreBufferHeap heap = new StoreBufferHeap();
        Check.same("NONE", StoreBufferHeap.NONE, -1);
        int[] counts = {1, 1, 1, 1, 0, 0, 0, 1, 0, -2, -2, 0, -2};
        for (int what = 0; what < counts.length; what++) {
            Check.same("count(" + what + ")", heap.count(what), counts[what]);
        }
        for (int k = -1; k <= 3; k++) {
            Check.isFalse("again(" + k + ")", heap.again(k));
        }
        Check.same("states(false)", heap.states(false), 0);
        Check.same("fault(0)", heap.fault(0), 0);
        Check.same("fault(1)", heap.fault(1), -1);
        Check.end();
    }
}
