import java.util.List;
import java.util.Random;

/** Random runs of calls; every answer must be the one of the models. */
public final class ModelTest {
    private static final Random RANDOM = new Random(20261118);
    private static final String MANY_STATES = "party;swap 2 1 0;swap 2 2 1;put 2 1;"
        + "party;swap 2 3 0;swap 2 3 1;put 2 2;party;swap 2 0 0;swap 2 0 1;put 2 0;";
    private static int losses = 0;
    private static int strays = 0;
    private static int rowsThatLose = 0;

    /** Taken over by a few runs after one another: what one leaves behind must not show. */
    private static StoreBufferHeap shared = new StoreBufferHeap();

    private final StoreBufferHeap heap;
    private HeapModel model = new HeapModel(1, 1, 1, 1);
    private final String name;

    private ModelTest(String name) {
        this.name = name;
        if (upTo(4) == 0) {
            shared = new StoreBufferHeap();
        }
        heap = shared;
    }

    public static void main(String[] args) {
        for (int i = 0; i < 1200 && Check.wrongSoFar() == 0; i++) {
            new ModelTest("run " + i).runHeap();
        }
        for (int i = 0; i < 300 && Check.wrongSoFar() == 0; i++) {
            new ModelTest("sweep " + i).lookAheadInSweeps();
        }
        Check.isTrue("some rows lose objects: " + rowsThatLose, rowsThatLose > 100);
        for (int i = 0; i < 600 && Check.wrongSoFar() == 0; i++) {
            new ModelTest("text " + i).readTexts();
        }
        for (int i = 0; i < 100 && Check.wrongSoFar() == 0; i++) {
            new ModelTest("trial " + i).runTrial();
        }
        System.out.println(losses + " runs with a loss, " + strays + " with something astray");
        Check.isTrue("some runs lose objects", losses > 20);
        Check.isTrue("some runs go astray", strays > 5);
        Check.end();
    }

    private static int upTo(int bound) {
        return RANDOM.nextInt(bound);
    }

    private void runHeap() {
        int t = 1 + upTo(3);
        int b = 1 + upTo(4);
        int s = upTo(3) == 0 ? 1 + upTo(8) : 3 + upTo(3);
        int f = 1 + upTo(3);
        Check.isTrue("heap", heap.heap(t, b, s, f));
        model = new HeapModel(t, b, s, f);
        if (upTo(3) > 0) {
            leave(upTo(8));
        }
        for (int m = 1; m <= t; m++) {
            giveScript(m);
        }
        int bias = upTo(3);
        HeapModel[] images = new HeapModel[3];
        for (int i = 0; i < 120; i++) {
            switch (upTo(40)) {
                case 0 -> giveScript(1 + upTo(t));
                case 1 -> {
                    if (upTo(4) == 0) {
                        leave(upTo(8));
                    }
                }
                case 2, 6 -> {
                    int k = upTo(3);
                    Check.isTrue("image", heap.image(k));
                    images[k] = model.copy();
                }
                case 3 -> {
                    int k = upTo(3);
                    if (images[k] != null) {
                        Check.isTrue("again", heap.again(k));
                        model = images[k].copy();
                    }
                }
                case 4 -> fair(upTo(12));
                default -> schedule(1 + upTo(8) * upTo(12), bias);
            }
            compare();
        }
        losses += heap.lost() != 0 ? 1 : 0;
        strays += heap.count(6) != 0 ? 1 : 0;
    }

    private void leave(int bits) {
        Check.isTrue("leave", heap.leave(bits));
        model.leave(bits);
    }

    private void giveScript(int mutator) {
        giveScript(mutator, ScriptMaker.script(RANDOM, model.fields));
    }

    private void giveScript(int mutator, String text) {
        TextModel read = new TextModel(text, false, model.fields);
        boolean ready = model.isBetween(mutator);
        int due = !ready ? -2 : read.fault != 0 ? -1 : read.lines.size();
        Check.same(name + " script", Check.script(heap, mutator, text), due);
        if (due >= 0) {
            model.script(mutator, read.lines);
        }
    }

    private void fair(int n) {
        int done = 0;
        for (int i = 0; i < n; i++) {
            for (int entry = 0; entry < 12; entry++) {
                done += model.enter(entry) ? 1 : 0;
            }
        }
        Check.same(name + " fair", heap.fair(n), done);
    }

    private void schedule(int length, int bias) {
        StringBuilder text = new StringBuilder();
        int done = 0;
        for (int i = 0; i < length; i++) {
            boolean step = upTo(4) >= bias;
            int thread = upTo(4);
            text.append((char) ((step ? '0' : 'a') + thread));
            done += model.enter(step ? thread : 8 + thread) ? 1 : 0;
        }
        if (length == 1) {
            int sign = text.charAt(0);
            int entry = sign >= 'a' ? 8 + sign - 'a' : sign - '0';
            Check.same(name + " does", heap.does(entry) ? 1 : 0, done);
        } else {
            Check.same(name + " run", Check.run(heap, text.toString()), done);
        }
    }

    private void compare() {
        for (int t = -1; t <= 4; t++) {
            boolean there = t >= 0 && t <= model.mutators;
            Check.same(name + " waits", heap.waits(t), there ? model.strands.get(t).buffer.size() : -1);
            Check.same(name + " work", heap.work(t), there ? model.work(t) : -1);
            for (int what = -1; what <= 5; what++) {
                Check.same(name + " about " + t + " " + what, heap.about(t, what),
                    model.about(t, what));
            }
            for (int k = -1; k <= 4; k++) {
                for (int what = -1; what <= 4; what++) {
                    Check.same(name + " write", heap.write(t, k, what), model.write(t, k, what));
                }
                Check.same(name + " root", heap.root(t, k, false), model.root(t, k, false));
                Check.same(name + " root", heap.root(t, k, true), model.root(t, k, true));
            }
            compareSeen(t);
        }
        compareCells();
        int[] reach = model.reach();
        Check.same(name + " reached", heap.reached(), reach[0]);
        Check.same(name + " lost", heap.lost(), reach[1]);
        Check.same(name + " harm", heap.harm(), model.harm());
        for (int what = -1; what <= 15; what++) {
            Check.same(name + " count " + what, heap.count(what), model.count(what));
        }
        if (upTo(10) == 0) {
            compareWorst(upTo(3));
        }
        if (upTo(300) == 0) {
            compareWorst(3);
        }
    }

    private void compareSeen(int mutator) {
        for (int k = -1; k <= 32; k += 1 + upTo(4)) {
            Check.same(name + " seen", heap.seen(mutator, k), model.seen(mutator, k));
        }
    }

    private void compareCells() {
        for (int slot = -1; slot <= 8; slot++) {
            Check.same(name + " colour", heap.colour(slot), model.colour(slot));
            int serial = slot < 0 || slot >= model.slots ? -1 : model.serials[slot];
            Check.same(name + " serial", heap.serial(slot), serial);
        }
        for (int i = 0; i < 40; i++) {
            int sort = upTo(8) - 1;
            int slot = upTo(10) - 1;
            int field = upTo(5) - 1;
            int thread = upTo(6) - 1;
            Check.same(name + " cell", heap.cell(sort, slot, field),
                model.reads(-1, sort, slot, field));
            int due = thread < 0 ? -1 : model.reads(thread, sort, slot, field);
            Check.same(name + " reads", heap.reads(thread, sort, slot, field), due);
        }
    }

    private void compareWorst(int n) {
        int[] worst = model.worst(n);
        for (int what = 0; what <= n; what++) {
            Check.same(name + " worst " + n + " " + what, heap.worst(n, what), worst[what]);
        }
        Check.same(name + " worst", heap.worst(n, n + 1), -1);
    }

    /** Losses come while the COLLECTOR sweeps, so that is where rows differ. */
    private void lookAheadInSweeps() {
        int t = 1 + upTo(2);
        int s = 3 + upTo(3);
        heap.heap(t, 1, s, 1);
        model = new HeapModel(t, 1, s, 1);
        leave(upTo(2) == 0 ? 3 : 7);
        for (int m = 1; m <= t; m++) {
            giveScript(m, ScriptMaker.mover(RANDOM, 1));
        }
        int looks = 0;
        for (int i = 0; i < 300 && looks < 12; i++) {
            boolean sweeps = model.reads(0, 3, 0, 0) == 3;
            schedule(sweeps ? 1 : 6, 1);
            if (sweeps) {
                looks++;
                compareWorst(looks % 4);
                rowsThatLose += heap.worst(looks % 4, 0) > 0 ? 1 : 0;
            }
        }
    }

    private void readTexts() {
        int f = 1 + upTo(3);
        heap.heap(1, 1, 1, f);
        for (int i = 0; i < 20; i++) {
            boolean trial = upTo(2) == 0;
            String whole = trial ? ScriptMaker.trial(RANDOM) : ScriptMaker.script(RANDOM, f);
            String text = ScriptMaker.spoil(RANDOM, whole);
            TextModel read = new TextModel(text, trial, f);
            int got = trial ? Check.trial(heap, text) : Check.script(heap, 1, text);
            int due = read.lines.size();
            if (trial && read.fault == 0) {
                due = new TrialModel(read.lines).parties.size();
            }
            String told = name + " of '" + text + "'";
            Check.same(told, got, read.fault != 0 ? -1 : due);
            Check.same(told + " fault(0)", heap.fault(0), read.fault);
            Check.same(told + " fault(1)", heap.fault(1), read.place);
            Check.same(told + " tape", heap.end(1), -1);
        }
    }

    private void runTrial() {
        String text = upTo(4) == 0 ? MANY_STATES : ScriptMaker.trial(RANDOM);
        TextModel read = new TextModel(text, true, 1);
        Check.same(name + " fault of '" + text + "'", read.fault, 0);
        TrialModel trial = new TrialModel(read.lines);
        Check.same(name + " trial", Check.trial(heap, text), trial.parties.size());
        boolean strictFirst = upTo(2) == 0;
        Check.same(text + " states", heap.states(strictFirst), trial.states(strictFirst));
        Check.same(text + " states", heap.states(!strictFirst), trial.states(!strictFirst));
        for (int sort = 0; sort < 3; sort++) {
            List<Integer> outcomes = trial.outcomes(sort);
            Check.same(text + " outcomes", heap.outcomes(sort), outcomes.size());
            for (int k = 0; k < outcomes.size(); k++) {
                Check.same(text + " outcome", heap.outcome(sort, k), outcomes.get(k));
            }
            Check.same(text + " outcome", heap.outcome(sort, outcomes.size()), -1);
            Check.same(text + " outcome", heap.outcome(sort, -1), -1);
        }
    }
}
