import java.util.ArrayDeque;
import java.util.ArrayList;
import java.util.Comparator;
import java.util.Deque;
import java.util.List;
import java.util.Map;
import java.util.NoSuchElementException;
import java.util.TreeMap;
import java.util.TreeSet;
import java.util.regex.Matcher;
import java.util.regex.Pattern;

/** The document told once more with maps, sets, exceptions and a pattern, as slowly as it likes. */
final class Model {
    private static final class State {
        final List<Integer> gates = new ArrayList<>();
        final List<Integer> guards = new ArrayList<>();
        final List<Integer> faints = new ArrayList<>();
        final List<TreeSet<Integer>> leaves = new ArrayList<>();
        /** The guard of a duty by slot * 10 + gate. */
        final Map<Integer, Integer> duties = new TreeMap<>();
        int rations = 20;
        int now;

        State copy() {
            State copy = new State();
            copy.gates.addAll(gates);
            copy.guards.addAll(guards);
            copy.faints.addAll(faints);
            for (TreeSet<Integer> leave : leaves) {
                copy.leaves.add(new TreeSet<>(leave));
            }
            copy.duties.putAll(duties);
            copy.rations = rations;
            copy.now = now;
            return copy;
        }
    }

    private static final Pattern COMMAND = Pattern.compile("gate \\d|guard \\d|duty \\d@\\d{1,2}=\\d|free \\d@\\d{1,2}"
            + "|leave \\d \\d{1,2}-\\d{1,2}|fill \\d{1,2}|food \\d{1,2}|pass \\d{1,2}");
    private static final Pattern TEXT = Pattern.compile("(?:" + COMMAND + ")(?:;(?:" + COMMAND + "))*");

    private State state = new State();
    private State saved;
    private final Deque<State> past = new ArrayDeque<>();
    private int[] refusal;
    private String text = "";
    private String output = "";
    private Integer wrongAt;
    private Integer failed;

    private void needGate(int gate) {
        if (gate < 0 || gate >= state.gates.size()) {
            throw new IndexOutOfBoundsException();
        }
    }

    private void needGuard(int guard) {
        if (guard < 0 || guard >= state.guards.size()) {
            throw new IndexOutOfBoundsException();
        }
    }

    private void needSlot(int slot) {
        if (slot < 0 || slot > 27) {
            throw new IndexOutOfBoundsException();
        }
    }

    private void needFuture(int slot) {
        if (slot < state.now) {
            throw new IllegalStateException();
        }
    }

    private static void needArgument(boolean right) {
        if (!right) {
            throw new IllegalArgumentException();
        }
    }

    private static void needState(boolean right) {
        if (!right) {
            throw new IllegalStateException();
        }
    }

    private static void needThere(boolean there) {
        if (!there) {
            throw new NoSuchElementException();
        }
    }

    private void keep() {
        past.addLast(state.copy());
        if (past.size() > 8) {
            past.removeFirst();
        }
    }

    private Integer on(int gate, int slot) {
        return state.duties.get(slot * 10 + gate);
    }

    private Integer held(int guard, int slot) {
        for (int gate = 0; gate < state.gates.size(); gate++) {
            Integer there = on(gate, slot);
            if (there != null && there == guard) {
                return gate;
            }
        }
        return null;
    }

    private int total(int guard) {
        return (int) state.duties.values().stream().filter(g -> g == guard).count();
    }

    private int[] refusalOf(int gate, int slot, int guard) {
        if (on(gate, slot) != null) {
            return new int[] {1, on(gate, slot)};
        } else if (state.guards.get(guard) < state.gates.get(gate)) {
            return new int[] {2, state.guards.get(guard)};
        } else if (state.leaves.get(guard).contains(slot)) {
            return new int[] {3, slot};
        } else if (held(guard, slot) != null) {
            return new int[] {4, held(guard, slot)};
        } else if (held(guard, slot - 1) != null) {
            return new int[] {5, held(guard, slot - 1)};
        } else if (held(guard, slot + 1) != null) {
            return new int[] {6, held(guard, slot + 1)};
        }
        return null;
    }

    private void place(int gate, int slot, int guard) {
        int[] no = refusalOf(gate, slot, guard);
        if (no != null) {
            refusal = no;
            throw new UnsupportedOperationException();
        }
        state.duties.put(slot * 10 + gate, guard);
    }

    int addGate(int neededRank) {
        needArgument(neededRank >= 1 && neededRank <= 9);
        needState(state.gates.size() < 5);
        keep();
        state.gates.add(neededRank);
        return state.gates.size() - 1;
    }

    int addGuard(int rank) {
        needArgument(rank >= 1 && rank <= 9);
        needState(state.guards.size() < 10);
        keep();
        state.guards.add(rank);
        state.faints.add(0);
        state.leaves.add(new TreeSet<>());
        return state.guards.size() - 1;
    }

    int gateCount() {
        return state.gates.size();
    }

    int guardCount() {
        return state.guards.size();
    }

    int neededRank(int gate) {
        needGate(gate);
        return state.gates.get(gate);
    }

    int rank(int guard) {
        needGuard(guard);
        return state.guards.get(guard);
    }

    int faints(int guard) {
        needGuard(guard);
        return state.faints.get(guard);
    }

    int assign(int gate, int slot, int guard) {
        needGate(gate);
        needSlot(slot);
        needGuard(guard);
        needFuture(slot);
        State before = state.copy();
        place(gate, slot, guard);
        State after = state;
        state = before;
        keep();
        state = after;
        return total(guard);
    }

    boolean canAssign(int gate, int slot, int guard) {
        needGate(gate);
        needSlot(slot);
        needGuard(guard);
        return slot >= state.now && refusalOf(gate, slot, guard) == null;
    }

    int remove(int gate, int slot) {
        needGate(gate);
        needSlot(slot);
        needFuture(slot);
        needThere(on(gate, slot) != null);
        keep();
        return state.duties.remove(slot * 10 + gate);
    }

    int exchange(int gate, int slot, int otherGate, int otherSlot) {
        needGate(gate);
        needSlot(slot);
        needGate(otherGate);
        needSlot(otherSlot);
        needArgument(gate != otherGate || slot != otherSlot);
        needFuture(slot);
        needFuture(otherSlot);
        needThere(on(gate, slot) != null && on(otherGate, otherSlot) != null);
        State before = state;
        state = before.copy();
        try {
            int guard = state.duties.remove(slot * 10 + gate);
            int otherGuard = state.duties.remove(otherSlot * 10 + otherGate);
            place(gate, slot, otherGuard);
            place(otherGate, otherSlot, guard);
            State after = state;
            state = before;
            keep();
            state = after;
            return otherGuard;
        } catch (UnsupportedOperationException e) {
            state = before;
            throw e;
        }
    }

    int fillSlot(int slot) {
        needSlot(slot);
        needFuture(slot);
        keep();
        List<Integer> order = new ArrayList<>();
        for (int gate = 0; gate < state.gates.size(); gate++) {
            order.add(gate);
        }
        order.sort(Comparator.comparing((Integer gate) -> -state.gates.get(gate)));
        int before = state.duties.size();
        for (int gate : order) {
            guardsInOrder().stream().filter(guard -> refusalOf(gate, slot, guard) == null).findFirst()
                    .ifPresent(guard -> state.duties.put(slot * 10 + gate, guard));
        }
        return state.duties.size() - before;
    }

    private List<Integer> guardsInOrder() {
        List<Integer> order = new ArrayList<>();
        for (int guard = 0; guard < state.guards.size(); guard++) {
            order.add(guard);
        }
        order.sort(Comparator.comparing(this::total).thenComparing(state.guards::get));
        return order;
    }

    int guardAt(int gate, int slot) {
        needGate(gate);
        needSlot(slot);
        needThere(on(gate, slot) != null);
        return on(gate, slot);
    }

    int gateOf(int guard, int slot) {
        needGuard(guard);
        needSlot(slot);
        needThere(held(guard, slot) != null);
        return held(guard, slot);
    }

    int dutiesOf(int guard) {
        needGuard(guard);
        return total(guard);
    }

    int dutyCount() {
        return state.duties.size();
    }

    int openGates(int slot) {
        needSlot(slot);
        return state.gates.size() - (int) state.duties.keySet().stream().filter(key -> key / 10 == slot).count();
    }

    int openPlaces() {
        return state.gates.size() * (28 - state.now)
                - (int) state.duties.keySet().stream().filter(key -> key / 10 >= state.now).count();
    }

    int mostDuties(int slot) {
        needSlot(slot);
        return mostFrom(0, slot, 0);
    }

    private int mostFrom(int gate, int slot, int used) {
        if (gate == state.gates.size()) {
            return 0;
        }
        int most = mostFrom(gate + 1, slot, used);
        for (int guard = 0; guard < state.guards.size(); guard++) {
            if ((used >> guard & 1) == 0 && refusalOf(gate, slot, guard) == null) {
                most = Math.max(most, 1 + mostFrom(gate + 1, slot, used | 1 << guard));
            }
        }
        return most;
    }

    int nextDuty(int guard) {
        needGuard(guard);
        for (int slot = state.now; slot < 28; slot++) {
            if (held(guard, slot) != null) {
                return slot;
            }
        }
        throw new NoSuchElementException();
    }

    int longestRest(int guard) {
        String line = lineOf(guard).replace('x', '.');
        int length = 28;
        while (!line.contains(".".repeat(length))) {
            length--;
        }
        return length;
    }

    private String lineOf(int guard) {
        needGuard(guard);
        StringBuilder line = new StringBuilder();
        for (int slot = 0; slot < 28; slot++) {
            Integer gate = held(guard, slot);
            line.append(gate != null ? gate.toString() : state.leaves.get(guard).contains(slot) ? "x" : ".");
        }
        return line.toString();
    }

    int guardByDuties(int place) {
        needThere(place >= 0 && place < state.guards.size());
        return guardsInOrder().get(place);
    }

    int grantLeave(int guard, int first, int last) {
        needGuard(guard);
        needArgument(first >= 0 && last <= 27 && first <= last);
        needFuture(first);
        for (int slot = first; slot <= last; slot++) {
            if (held(guard, slot) != null) {
                refusal = new int[] {4, held(guard, slot)};
                throw new UnsupportedOperationException();
            }
        }
        keep();
        int added = 0;
        for (int slot = first; slot <= last; slot++) {
            added += state.leaves.get(guard).add(slot) ? 1 : 0;
        }
        return added;
    }

    int endLeave(int guard, int slot) {
        needGuard(guard);
        needSlot(slot);
        needThere(state.leaves.get(guard).contains(slot));
        keep();
        state.leaves.get(guard).remove(slot);
        return state.leaves.get(guard).size();
    }

    boolean isOnLeave(int guard, int slot) {
        needGuard(guard);
        needSlot(slot);
        return state.leaves.get(guard).contains(slot);
    }

    int leaveSlots(int guard) {
        needGuard(guard);
        return state.leaves.get(guard).size();
    }

    int addRations(int rations) {
        needArgument(rations >= 1 && rations <= 50);
        needState(state.rations + rations <= 99);
        keep();
        state.rations += rations;
        return state.rations;
    }

    int passSlots(int slots) {
        needArgument(slots >= 1 && slots <= 28);
        needState(state.now + slots <= 28);
        keep();
        int fainted = 0;
        for (Map.Entry<Integer, Integer> duty : state.duties.entrySet()) {
            int slot = duty.getKey() / 10;
            if (slot >= state.now && slot < state.now + slots) {
                if (state.rations > 0) {
                    state.rations--;
                } else {
                    fainted++;
                    state.faints.set(duty.getValue(), state.faints.get(duty.getValue()) + 1);
                }
            }
        }
        state.now += slots;
        return fainted;
    }

    int rations() {
        return state.rations;
    }

    int currentSlot() {
        return state.now;
    }

    int missingRations() {
        int left = (int) state.duties.keySet().stream().filter(key -> key / 10 >= state.now).count();
        return left > state.rations ? left - state.rations : 0;
    }

    int refusalReason() {
        needThere(refusal != null);
        return refusal[0];
    }

    int refusalDetail() {
        needThere(refusal != null);
        return refusal[1];
    }

    double meanDuties() {
        if (state.guards.isEmpty()) {
            throw new ArithmeticException();
        }
        return (double) state.duties.size() / (double) state.guards.size();
    }

    float coveredFraction() {
        if (state.gates.isEmpty()) {
            throw new ArithmeticException();
        }
        return (float) state.duties.size() / (float) (28 * state.gates.size());
    }

    int writeSlot(int slot) {
        needSlot(slot);
        StringBuilder line = new StringBuilder().append("dn".charAt(slot % 2)).append(slot / 2).append(":");
        for (int gate = 0; gate < state.gates.size(); gate++) {
            line.append(" ").append(on(gate, slot) == null ? "-" : on(gate, slot).toString());
        }
        output = line.toString();
        return output.length();
    }

    int writeGuard(int guard) {
        output = lineOf(guard);
        return 28;
    }

    char outputCharacter(int index) {
        if (index < 0 || index >= output.length()) {
            throw new IndexOutOfBoundsException();
        }
        return output.charAt(index);
    }

    int feed(char character) {
        needState(text.length() < 60);
        text += character;
        return text.length();
    }

    int execute() {
        String all = text;
        text = "";
        if (!TEXT.matcher(all).matches()) {
            wrongAt = errorPositionOf(all);
            throw new IllegalArgumentException();
        }
        State before = state.copy();
        List<State> pastBefore = new ArrayList<>(past);
        String[] commands = all.split(";");
        for (int i = 0; i < commands.length; i++) {
            try {
                carryOut(commands[i].split("[ @=-]"));
            } catch (RuntimeException e) {
                failed = i;
                state = before;
                restorePast(pastBefore);
                throw new UnsupportedOperationException();
            }
        }
        State after = state;
        restorePast(pastBefore);
        state = before;
        keep();
        state = after;
        return commands.length;
    }

    private void restorePast(List<State> pastBefore) {
        past.clear();
        past.addAll(pastBefore);
    }

    private static int errorPositionOf(String all) {
        for (int length = 1; length <= all.length(); length++) {
            Matcher matcher = TEXT.matcher(all.substring(0, length));
            if (!matcher.matches() && !matcher.hitEnd()) {
                return length - 1;
            }
        }
        return all.length();
    }

    private void carryOut(String[] words) {
        int[] numbers = new int[4];
        for (int i = 1; i < words.length; i++) {
            numbers[i] = Integer.parseInt(words[i]);
        }
        switch (words[0]) {
            case "gate" -> addGate(numbers[1]);
            case "guard" -> addGuard(numbers[1]);
            case "duty" -> assign(numbers[1], numbers[2], numbers[3]);
            case "free" -> remove(numbers[1], numbers[2]);
            case "leave" -> grantLeave(numbers[1], numbers[2], numbers[3]);
            case "fill" -> fillSlot(numbers[1]);
            case "food" -> addRations(numbers[1]);
            default -> passSlots(numbers[1]);
        }
    }

    int errorPosition() {
        needThere(wrongAt != null);
        return wrongAt;
    }

    int failedCommand() {
        needThere(failed != null);
        return failed;
    }

    int undo() {
        needState(!past.isEmpty());
        state = past.removeLast();
        return past.size();
    }

    int undoCount() {
        return past.size();
    }

    int save() {
        saved = state.copy();
        return state.guards.size();
    }

    int restore() {
        needState(saved != null);
        state = saved.copy();
        past.clear();
        return state.guards.size();
    }
}
