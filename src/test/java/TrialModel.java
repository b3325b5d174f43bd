import java.util.ArrayDeque;
import java.util.ArrayList;
import java.util.Arrays;
import java.util.HashSet;
import java.util.List;
import java.util.Set;
import java.util.TreeSet;

/** Term 5 told once more, with STATES that hold their BUFFERS in full. */
final class TrialModel {
    final List<List<HeapModel.Line>> parties = new ArrayList<>();

    TrialModel(List<HeapModel.Line> lines) {
        for (HeapModel.Line line : lines) {
            if (line.verb().equals("party")) {
                parties.add(new ArrayList<>());
            } else {
                parties.get(parties.size() - 1).add(line);
            }
        }
    }

    private static final class State {
        int[] done;
        int[] registers;
        int[] memory = new int[3];
        List<List<int[]>> buffers = new ArrayList<>();

        State copy() {
            State twin = new State();
            twin.done = done.clone();
            twin.registers = registers.clone();
            twin.memory = memory.clone();
            for (List<int[]> buffer : buffers) {
                twin.buffers.add(new ArrayList<>(buffer));
            }
            return twin;
        }

        String text() {
            StringBuilder told = new StringBuilder(Arrays.toString(done));
            told.append(Arrays.toString(registers)).append(Arrays.toString(memory));
            for (List<int[]> buffer : buffers) {
                told.append('|');
                for (int[] write : buffer) {
                    told.append(write[0]).append('=').append(write[1]).append(',');
                }
            }
            return told.toString();
        }
    }

    int states(boolean strict) {
        return explore(strict, new TreeSet<>());
    }

    List<Integer> outcomes(int sort) {
        TreeSet<Integer> all = new TreeSet<>();
        TreeSet<Integer> strict = new TreeSet<>();
        explore(false, all);
        explore(true, strict);
        if (sort == 1) {
            return new ArrayList<>(strict);
        }
        if (sort == 2) {
            all.removeAll(strict);
        }
        return new ArrayList<>(all);
    }

    private int explore(boolean strict, Set<Integer> outcomes) {
        State first = new State();
        first.done = new int[parties.size()];
        first.registers = new int[2 * parties.size()];
        for (int p = 0; p < parties.size(); p++) {
            first.buffers.add(new ArrayList<>());
        }
        Set<String> known = new HashSet<>();
        ArrayDeque<State> open = new ArrayDeque<>();
        known.add(first.text());
        open.add(first);
        while (!open.isEmpty()) {
            State state = open.poll();
            boolean over = true;
            for (int p = 0; p < parties.size(); p++) {
                over &= state.done[p] == parties.get(p).size() && state.buffers.get(p).isEmpty();
                for (State after : new State[] {act(state, p, strict), commit(state, p)}) {
                    if (after != null && known.add(after.text())) {
                        open.add(after);
                    }
                }
            }
            if (over) {
                int number = 0;
                for (int register : state.registers) {
                    number = 4 * number + register;
                }
                outcomes.add(number);
            }
        }
        return known.size();
    }

    private State act(State state, int p, boolean strict) {
        if (state.done[p] == parties.get(p).size()) {
            return null;
        }
        HeapModel.Line act = parties.get(p).get(state.done[p]);
        State after = state.copy();
        after.done[p]++;
        List<int[]> buffer = after.buffers.get(p);
        switch (act.verb()) {
            case "put":
                if (strict) {
                    after.memory[act.a()] = act.b();
                    return after;
                }
                buffer.add(new int[] {act.a(), act.b()});
                return buffer.size() > 2 ? null : after;
            case "get":
                int value = after.memory[act.b()];
                for (int[] write : buffer) {
                    value = write[0] == act.b() ? write[1] : value;
                }
                after.registers[2 * p + act.a()] = value;
                return after;
            case "swap":
                after.registers[2 * p + act.c()] = after.memory[act.a()];
                after.memory[act.a()] = act.b();
                return buffer.isEmpty() ? after : null;
            default:
                return buffer.isEmpty() ? after : null;
        }
    }

    private static State commit(State state, int p) {
        if (state.buffers.get(p).isEmpty()) {
            return null;
        }
        State after = state.copy();
        int[] write = after.buffers.get(p).remove(0);
        after.memory[write[0]] = write[1];
        return after;
    }
}
