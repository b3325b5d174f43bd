import java.util.ArrayDeque;
import java.util.ArrayList;
import java.util.Arrays;
import java.util.HashMap;
import java.util.LinkedHashMap;
import java.util.List;
import java.util.Map;
import java.util.TreeSet;

/**
 * Terms 1 to 4 told once more, in another way than the class tells them: what a THREAD is to do is
 * a row of closures. A closure answers TRUE (a STEP was done), FALSE (BLOCKED) or null (no STEP was
 * needed). Closures can't be copied, so a copy of a model is made by doing its log again.
 */
final class HeapModel {
    interface Act {
        Boolean go();
    }

    record Ref(int slot, int serial) {
    }

    record Write(String cell, Object value) {
    }

    record Line(String verb, int a, int b, int c) {
    }

    static final class Strand {
        final int id;
        final List<Write> buffer = new ArrayList<>();
        final TreeSet<Integer> work = new TreeSet<>();
        ArrayDeque<Act> todo = new ArrayDeque<>();
        final Ref[] registers = new Ref[4];
        List<Line> script = List.of();
        final List<Integer> seen = new ArrayList<>();
        int line;
        String asked = "";
        boolean answers;
        int steps;
        int rounds;
        Ref marked;
        Ref old;
        Object sense;

        Strand(int id) {
            this.id = id;
        }
    }

    interface Event {
        void repeat(HeapModel on);
    }

    final int mutators;
    final int bufferSize;
    final int slots;
    final int fields;
    int left;
    int made;
    int freed;
    int stray;
    final Map<String, Object> memory = new HashMap<>();
    final boolean[] taken;
    final int[] serials;
    final List<Strand> strands = new ArrayList<>();
    final List<Event> log = new ArrayList<>();

    HeapModel(int mutators, int bufferSize, int slots, int fields) {
        this.mutators = mutators;
        this.bufferSize = bufferSize;
        this.slots = slots;
        this.fields = fields;
        taken = new boolean[slots];
        serials = new int[slots];
        Arrays.fill(serials, -1);
        for (int slot = 0; slot < slots; slot++) {
            memory.put("flag" + slot, 0);
        }
        memory.put("phase", 0);
        memory.put("mark", 0);
        memory.put("colour", 0);
        for (int t = 0; t <= mutators; t++) {
            strands.add(new Strand(t));
        }
    }

    HeapModel copy() {
        HeapModel twin = new HeapModel(mutators, bufferSize, slots, fields);
        for (Event event : log) {
            event.repeat(twin);
        }
        twin.log.addAll(log);
        return twin;
    }

    void leave(int bits) {
        left = bits;
        log.add(on -> on.left = bits);
    }

    void script(int mutator, List<Line> lines) {
        setScript(mutator, lines);
        log.add(on -> on.setScript(mutator, lines));
    }

    private void setScript(int mutator, List<Line> lines) {
        strands.get(mutator).script = lines;
        strands.get(mutator).line = 0;
    }

    boolean enter(int entry) {
        boolean done = tryEntry(entry);
        if (done) {
            log.add(on -> on.tryEntry(entry));
        }
        return done;
    }

    boolean wouldBlock(int thread) {
        return !copy().tryEntry(thread);
    }

    private boolean tryEntry(int entry) {
        if (entry >= 8 && entry <= 8 + mutators) {
            List<Write> buffer = strands.get(entry - 8).buffer;
            if (buffer.isEmpty()) {
                return false;
            }
            Write oldest = buffer.remove(0);
            memory.put(oldest.cell, oldest.value);
            return true;
        }
        return entry >= 0 && entry <= mutators && step(strands.get(entry));
    }

    private boolean step(Strand s) {
        boolean toAnswer = s.answers || s.todo.isEmpty() && !s.asked.isEmpty();
        if (s.id > 0 && toAnswer && (left & 4) == 0 && !s.buffer.isEmpty()) {
            return false;
        }
        ArrayDeque<Act> before = new ArrayDeque<>(s.todo);
        boolean answeredBefore = s.answers;
        Ref oldBefore = s.old;
        Boolean result = null;
        while (result == null) {
            if (s.todo.isEmpty()) {
                if (s.id == 0) {
                    planRound(s);
                } else if (!s.asked.isEmpty()) {
                    planAnswer(s);
                } else if (s.line < s.script.size()) {
                    planLine(s, s.script.get(s.line));
                } else {
                    result = false;
                    break;
                }
            }
            Act act = s.todo.poll();
            result = act.go();
        }
        if (!result) {
            s.todo = before;
            s.answers = answeredBefore;
            s.old = oldBefore;
            return false;
        }
        s.steps++;
        return true;
    }

    private Object read(Strand s, String cell) {
        for (int i = s.buffer.size() - 1; i >= 0; i--) {
            if (s.buffer.get(i).cell.equals(cell)) {
                return s.buffer.get(i).value;
            }
        }
        return memory.get(cell);
    }

    private boolean write(Strand s, String cell, Object value) {
        if (s.buffer.size() == bufferSize) {
            return false;
        }
        s.buffer.add(new Write(cell, value));
        return true;
    }

    private static void ahead(Strand s, Act... acts) {
        for (int i = acts.length - 1; i >= 0; i--) {
            s.todo.push(acts[i]);
        }
    }

    private Boolean mark(Strand s, Ref ref) {
        if (ref == null) {
            return null;
        }
        s.marked = ref;
        ahead(s, () -> {
            s.sense = read(s, "mark");
            if (s.sense.equals(read(s, "flag" + ref.slot))) {
                s.marked = null;
            } else {
                ahead(s, () -> {
                    if (read(s, "phase").equals(0)) {
                        s.marked = null;
                        return true;
                    }
                    ahead(s, () -> exchange(s, ref));
                    return true;
                });
            }
            return true;
        });
        return null;
    }

    private Boolean exchange(Strand s, Ref ref) {
        if (!s.buffer.isEmpty()) {
            return false;
        }
        if (!memory.get("flag" + ref.slot).equals(s.sense)) {
            memory.put("flag" + ref.slot, s.sense);
            s.work.add(ref.slot);
        }
        s.marked = null;
        return true;
    }

    private void planLine(Strand s, Line line) {
        ahead(s, switch (line.verb) {
            case "new" -> () -> doNew(s, line.a);
            case "drop" -> () -> next(s, () -> s.registers[line.a] = null);
            case "see" -> () -> next(s, () -> s.seen.add(
                s.registers[line.a] == null ? -1 : s.registers[line.a].serial));
            case "copy" -> () -> next(s, () -> s.registers[line.a] = s.registers[line.b]);
            case "load" -> () -> next(s, () -> s.registers[line.a] =
                fetch(s, s.registers[line.b], line.c));
            case "store" -> () -> store(s, line);
            default -> () -> {
                s.line = Math.min(line.a, s.script.size());
                return true;
            };
        });
    }

    private static Boolean next(Strand s, Runnable deed) {
        deed.run();
        s.line++;
        return true;
    }

    private Ref fetch(Strand s, Ref through, int field) {
        if (through == null) {
            return null;
        }
        if (isGone(through)) {
            stray++;
        }
        return (Ref) read(s, "field" + through.slot + "." + field);
    }

    private boolean isGone(Ref ref) {
        return !taken[ref.slot] || serials[ref.slot] != ref.serial;
    }

    private Boolean doNew(Strand s, int register) {
        for (int slot = 0; slot < slots; slot++) {
            if (!taken[slot]) {
                taken[slot] = true;
                serials[slot] = made++;
                memory.put("flag" + slot, read(s, "colour"));
                for (int f = 0; f < fields; f++) {
                    memory.remove("field" + slot + "." + f);
                }
                s.registers[register] = new Ref(slot, serials[slot]);
                s.line++;
                return true;
            }
        }
        return false;
    }

    private Boolean store(Strand s, Line line) {
        Ref holder = s.registers[line.a];
        Ref added = s.registers[line.c];
        if (holder == null) {
            s.line++;
            return true;
        }
        s.old = fetch(s, holder, line.b);
        ahead(s,
            () -> {
                Ref old = s.old;
                s.old = null;
                return (left & 1) != 0 ? null : mark(s, old);
            },
            () -> (left & 2) != 0 ? null : mark(s, added),
            () -> {
                boolean done = write(s, "field" + holder.slot + "." + line.b, added);
                s.line += done ? 1 : 0;
                return done;
            });
        return true;
    }

    private void planAnswer(Strand s) {
        if (s.asked.equals("roots")) {
            for (int r = 0; r < 4; r++) {
                int register = r;
                s.todo.add(() -> mark(s, s.registers[register]));
            }
        }
        s.answers = true;
        s.todo.add(() -> {
            if (!s.asked.equals("plain")) {
                strands.get(0).work.addAll(s.work);
                s.work.clear();
            }
            s.asked = "";
            s.answers = false;
            return true;
        });
    }

    private Act ask(String what) {
        Strand collector = strands.get(0);
        return () -> {
            if ((left & 4) == 0 && !collector.buffer.isEmpty()) {
                return false;
            }
            for (int m = 1; m <= mutators; m++) {
                strands.get(m).asked = what;
            }
            return true;
        };
    }

    private Act await() {
        return () -> waitingFor() == 0;
    }

    int waitingFor() {
        int number = 0;
        for (Strand s : strands) {
            number += s.asked.isEmpty() ? 0 : 1;
        }
        return number;
    }

    private Act writes(String cell, Object value) {
        return () -> write(strands.get(0), cell, value);
    }

    private void planRound(Strand c) {
        List<Act> plan = new ArrayList<>();
        plan.addAll(List.of(ask("plain"), await()));
        plan.add(() -> write(c, "mark", 1 - (Integer) read(c, "mark")));
        plan.addAll(List.of(ask("plain"), await(), writes("phase", 1)));
        plan.addAll(List.of(ask("plain"), await(), writes("phase", 2)));
        plan.add(() -> write(c, "colour", read(c, "mark")));
        plan.addAll(List.of(ask("plain"), await(), ask("roots"), await()));
        plan.add(() -> trace(c));
        plan.add(writes("phase", 3));
        for (int slot = 0; slot < slots; slot++) {
            int swept = slot;
            plan.add(() -> sweep(c, swept));
        }
        plan.add(() -> {
            boolean done = write(c, "phase", 0);
            c.rounds += done ? 1 : 0;
            return done;
        });
        c.todo.addAll(plan);
    }

    private Boolean trace(Strand c) {
        if (c.work.isEmpty()) {
            ahead(c, ask("work"), await(), () -> c.work.isEmpty() ? null : trace(c));
            return null;
        }
        int slot = c.work.first();
        List<Act> plan = new ArrayList<>();
        for (int f = 0; f < fields; f++) {
            String cell = "field" + slot + "." + f;
            plan.add(() -> {
                mark(c, (Ref) read(c, cell));
                return true;
            });
        }
        plan.add(() -> c.work.remove(slot));
        plan.add(() -> trace(c));
        ahead(c, plan.toArray(new Act[0]));
        return null;
    }

    private Boolean sweep(Strand c, int slot) {
        if (taken[slot] && !read(c, "flag" + slot).equals(read(c, "mark"))) {
            taken[slot] = false;
            freed++;
        }
        return true;
    }

    int root(int mutator, int register, boolean serial) {
        if (mutator < 1 || mutator > mutators || register < 0 || register > 3) {
            return -1;
        }
        return told(strands.get(mutator).registers[register], serial);
    }

    private static int told(Object value, boolean serial) {
        Ref ref = (Ref) value;
        return ref == null ? -2 : serial ? ref.serial : ref.slot;
    }

    int reads(int thread, int sort, int slot, int field) {
        if (thread > mutators || thread < -1) {
            return -1;
        }
        String cell = switch (sort) {
            case 0 -> "flag" + slot;
            case 1, 2 -> "field" + slot + "." + field;
            case 3 -> "phase";
            case 4 -> "mark";
            case 5 -> "colour";
            default -> "";
        };
        boolean missing = cell.isEmpty() || sort < 3 && (slot < 0 || slot >= slots)
            || (sort == 1 || sort == 2) && (field < 0 || field >= fields);
        if (missing) {
            return -1;
        }
        Object value = thread == -1 ? memory.get(cell) : read(strands.get(thread), cell);
        return sort == 1 || sort == 2 ? told(value, sort == 2) : (Integer) value;
    }

    int write(int thread, int k, int what) {
        if (thread < 0 || thread > mutators || k < 0 || k >= strands.get(thread).buffer.size()) {
            return -1;
        }
        Write write = strands.get(thread).buffer.get(k);
        boolean field = write.cell.startsWith("field");
        return switch (what) {
            case 0 -> field ? 1 : 3 + List.of("phase", "mark", "colour").indexOf(write.cell);
            case 1 -> field ? write.cell.charAt(5) - '0' : 0;
            case 2 -> field ? write.cell.charAt(7) - '0' : 0;
            case 3 -> field ? told(write.value, false) : (Integer) write.value;
            default -> -1;
        };
    }

    int work(int thread) {
        int bits = 0;
        for (int slot : strands.get(thread).work) {
            bits |= 1 << slot;
        }
        return bits;
    }

    boolean isBetween(int mutator) {
        return strands.get(mutator).todo.isEmpty();
    }

    int about(int thread, int what) {
        if (thread < 0 || thread > mutators) {
            return -1;
        }
        Strand s = strands.get(thread);
        return switch (what) {
            case 0 -> thread == 0 ? s.rounds : s.line;
            case 1 -> thread > 0 && isBetween(thread) ? 1 : 0;
            case 2 -> thread == 0 ? waitingFor() : s.asked.isEmpty() ? 0 : 1;
            case 3 -> wouldBlock(thread) ? 1 : 0;
            case 4 -> s.steps;
            default -> -1;
        };
    }

    int colour(int slot) {
        if (slot < 0 || slot >= slots) {
            return -1;
        }
        if (!taken[slot]) {
            return 0;
        }
        if (!memory.get("flag" + slot).equals(memory.get("mark"))) {
            return 1;
        }
        for (Strand s : strands) {
            if (s.work.contains(slot)) {
                return 2;
            }
        }
        return 3;
    }

    /** REACHED in [0], LOST in [1]: first all REFERENCES there are, then what hangs on them. */
    int[] reach() {
        ArrayDeque<Ref> open = new ArrayDeque<>();
        for (Strand s : strands) {
            for (Ref ref : s.registers) {
                offer(open, ref);
            }
            for (Write write : s.buffer) {
                offer(open, write.value);
            }
            offer(open, s.marked);
            offer(open, s.old);
        }
        Map<Integer, Boolean> reached = new LinkedHashMap<>();
        int[] bits = new int[2];
        while (!open.isEmpty()) {
            Ref ref = open.poll();
            bits[0] |= 1 << ref.slot;
            bits[1] |= isGone(ref) ? 1 << ref.slot : 0;
            if (reached.put(ref.slot, true) == null) {
                for (int f = 0; f < fields; f++) {
                    offer(open, memory.get("field" + ref.slot + "." + f));
                }
            }
        }
        return bits;
    }

    private static void offer(ArrayDeque<Ref> open, Object value) {
        if (value instanceof Ref ref) {
            open.add(ref);
        }
    }

    int harm() {
        for (int slot = 0; slot < slots; slot++) {
            for (int f = 0; f < fields; f++) {
                Object value = memory.get("field" + slot + "." + f);
                if (colour(slot) == 3 && value instanceof Ref ref && colour(ref.slot) == 1) {
                    return 100 * slot + f;
                }
            }
        }
        return -1;
    }

    int seen(int mutator, int k) {
        if (mutator < 1 || mutator > mutators) {
            return -2;
        }
        List<Integer> all = strands.get(mutator).seen;
        List<Integer> last = all.subList(Math.max(0, all.size() - 32), all.size());
        return k < 0 || k >= last.size() ? -2 : last.get(k);
    }

    /** The most LOST in [0], then the row. */
    int[] worst(int n) {
        int[] best = new int[n + 1];
        best[0] = -1;
        int[] row = new int[n];
        int choices = 2 * (mutators + 1);
        int rows = (int) Math.pow(choices, n);
        for (int number = 0; number < rows; number++) {
            HeapModel twin = copy();
            int rest = number;
            for (int i = n - 1; i >= 0; i--) {
                int choice = rest % choices;
                rest /= choices;
                row[i] = choice <= mutators ? choice : 8 + choice - mutators - 1;
            }
            for (int entry : row) {
                twin.tryEntry(entry);
            }
            int lost = Integer.bitCount(twin.reach()[1]);
            if (lost > best[0]) {
                best[0] = lost;
                System.arraycopy(row, 0, best, 1, n);
            }
        }
        return best;
    }

    int count(int what) {
        int free = 0;
        for (boolean used : taken) {
            free += used ? 0 : 1;
        }
        if (what > 10 && what <= 10 + mutators) {
            return strands.get(what - 10).seen.size();
        }
        int[] told = {mutators, bufferSize, slots, fields, made, freed, stray, free, left};
        return what >= 0 && what < told.length ? told[what] : -2;
    }
}
