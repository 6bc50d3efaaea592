import java.util.NoSuchElementException;

/** A roster of guards at the gates of a court; ../shared/DOC.md says what each call promises. */
public final class GuardRoster {
    public static final int PLACE_TAKEN = 1;
    public static final int RANK_TOO_LOW = 2;
    public static final int ON_LEAVE = 3;
    public static final int BUSY = 4;
    public static final int NO_REST_BEFORE = 5;
    public static final int NO_REST_AFTER = 6;

    private static final int NONE = -1;
    private static final int SLOTS = 28;
    private static final int MAX_GATES = 5;
    private static final int MAX_GUARDS = 10;
    private static final int MAX_RANK = 9;
    private static final int FIRST_RATIONS = 20;
    private static final int MAX_RATIONS = 99;
    private static final int MAX_ADDED_RATIONS = 50;
    private static final int MAX_CHANGES = 8;
    private static final int MAX_TEXT = 60;
    private static final int MAX_OUTPUT = 28;

    // What stands in the way of a call is a number before it is an exception:
    // a text command must fail without an exception being caught.
    private static final int NO_PROBLEM = 0;
    private static final int BAD_INDEX = 1;
    private static final int BAD_ARGUMENT = 2;
    private static final int BAD_STATE = 3;
    private static final int NOT_THERE = 4;
    private static final int REFUSED = 5;

    private static final int GATE = 0;
    private static final int GUARD = 1;
    private static final int DUTY = 2;
    private static final int FREE = 3;
    private static final int LEAVE = 4;
    private static final int FILL = 5;
    private static final int FOOD = 6;
    private static final int PASS = 7;
    private static final int COMMAND_KINDS = 8;

    private final Roster roster = new Roster();
    private final History history = new History();
    private final SlotPlan plan = new SlotPlan();
    private final CommandText text = new CommandText();
    private final int[] savedCells = new int[Roster.SIZE];
    private boolean saved;
    private final char[] output = new char[MAX_OUTPUT];
    private int outputLength;
    private int latestReason;
    private int latestDetail;
    private int latestErrorPosition = NONE;
    private int latestFailedCommand = NONE;

    public GuardRoster() {
    }

    // ---- gates and guards

    public int addGate(int neededRank) throws IllegalArgumentException, IllegalStateException {
        throwFor(problemOfGate(neededRank));
        history.keep(roster);
        return roster.appendGate(neededRank);
    }

    public int addGuard(int rank) throws IllegalArgumentException, IllegalStateException {
        throwFor(problemOfGuard(rank));
        history.keep(roster);
        return roster.appendGuard(rank);
    }

    public int gateCount() {
        return roster.gates();
    }

    public int guardCount() {
        return roster.guards();
    }

    public int neededRank(int gate) throws IndexOutOfBoundsException {
        if (!roster.isGate(gate)) {
            throw new IndexOutOfBoundsException("there is no such gate");
        }
        return roster.rankNeededAt(gate);
    }

    public int rank(int guard) throws IndexOutOfBoundsException {
        throwUnlessGuard(guard);
        return roster.rankOf(guard);
    }

    public int faints(int guard) throws IndexOutOfBoundsException {
        throwUnlessGuard(guard);
        return roster.faintsOf(guard);
    }

    // ---- duties

    public int assign(int gate, int slot, int guard)
            throws IndexOutOfBoundsException, IllegalStateException, UnsupportedOperationException {
        throwFor(problemOfDuty(gate, slot, guard));
        history.keep(roster);
        roster.setDuty(gate, slot, guard);
        return roster.dutyTotal(guard);
    }

    public boolean canAssign(int gate, int slot, int guard) throws IndexOutOfBoundsException {
        if (!roster.isGate(gate) || !roster.isSlot(slot) || !roster.isGuard(guard)) {
            throw new IndexOutOfBoundsException("there is no such gate, slot or guard");
        }
        return !roster.hasPassed(slot) && roster.reasonAgainst(gate, slot, guard) == 0;
    }

    public int remove(int gate, int slot)
            throws IndexOutOfBoundsException, IllegalStateException, NoSuchElementException {
        throwFor(problemOfFreeing(gate, slot));
        history.keep(roster);
        int guard = roster.guardOn(gate, slot);
        roster.setDuty(gate, slot, NONE);
        return guard;
    }

    public int exchange(int gate, int slot, int otherGate, int otherSlot)
            throws IndexOutOfBoundsException, IllegalArgumentException, IllegalStateException,
            NoSuchElementException, UnsupportedOperationException {
        throwFor(problemOfExchange(gate, slot, otherGate, otherSlot));
        history.keep(roster);
        int guard = roster.guardOn(gate, slot);
        int otherGuard = roster.guardOn(otherGate, otherSlot);
        roster.setDuty(gate, slot, otherGuard);
        roster.setDuty(otherGate, otherSlot, guard);
        return otherGuard;
    }

    public int fillSlot(int slot) throws IndexOutOfBoundsException, IllegalStateException {
        throwFor(problemOfFilling(slot));
        history.keep(roster);
        return roster.fill(slot);
    }

    public int guardAt(int gate, int slot) throws IndexOutOfBoundsException, NoSuchElementException {
        if (!roster.isGate(gate) || !roster.isSlot(slot)) {
            throw new IndexOutOfBoundsException("there is no such gate or slot");
        }
        int guard = roster.guardOn(gate, slot);
        if (guard == NONE) {
            throw new NoSuchElementException("there is no duty");
        }
        return guard;
    }

    public int gateOf(int guard, int slot) throws IndexOutOfBoundsException, NoSuchElementException {
        throwUnlessGuardAndSlot(guard, slot);
        int gate = roster.gateHeld(guard, slot);
        if (gate == NONE) {
            throw new NoSuchElementException("the guard has no duty in the slot");
        }
        return gate;
    }

    public int dutiesOf(int guard) throws IndexOutOfBoundsException {
        throwUnlessGuard(guard);
        return roster.dutyTotal(guard);
    }

    public int dutyCount() {
        return roster.allDuties(0);
    }

    public int openGates(int slot) throws IndexOutOfBoundsException {
        throwUnlessSlot(slot);
        return roster.openGatesIn(slot);
    }

    public int openPlaces() {
        int places = 0;
        for (int gate = 0; gate < roster.gates(); gate++) {
            places += roster.openSlotsOf(gate);
        }
        return places;
    }

    public int openPlacesBySlots() {
        int places = 0;
        for (int slot = roster.now(); slot < SLOTS; slot++) {
            places += roster.openGatesIn(slot);
        }
        return places;
    }

    public int mostDuties(int slot) throws IndexOutOfBoundsException {
        throwUnlessSlot(slot);
        plan.prepare(roster, slot);
        return plan.countByPaths();
    }

    public int mostDutiesBySets(int slot) throws IndexOutOfBoundsException {
        throwUnlessSlot(slot);
        plan.prepare(roster, slot);
        return plan.countBySets();
    }

    public int nextDuty(int guard) throws IndexOutOfBoundsException, NoSuchElementException {
        throwUnlessGuard(guard);
        int slot = roster.nextSlotOf(guard);
        if (slot == NONE) {
            throw new NoSuchElementException("the guard has no duty left");
        }
        return slot;
    }

    public int longestRest(int guard) throws IndexOutOfBoundsException {
        throwUnlessGuard(guard);
        return roster.longestGap(guard);
    }

    public int guardByDuties(int place) throws NoSuchElementException {
        if (!roster.isGuard(place)) {
            throw new NoSuchElementException("there is no such place");
        }
        return roster.guardInOrder(place);
    }

    // ---- leave

    public int grantLeave(int guard, int first, int last)
            throws IndexOutOfBoundsException, IllegalArgumentException, IllegalStateException,
            UnsupportedOperationException {
        throwFor(problemOfLeave(guard, first, last));
        history.keep(roster);
        return roster.addLeave(guard, first, last);
    }

    public int endLeave(int guard, int slot) throws IndexOutOfBoundsException, NoSuchElementException {
        throwUnlessGuardAndSlot(guard, slot);
        if (!roster.hasLeave(guard, slot)) {
            throw new NoSuchElementException("the guard is not on leave in the slot");
        }
        history.keep(roster);
        roster.dropLeave(guard, slot);
        return roster.leaveTotal(guard);
    }

    public boolean isOnLeave(int guard, int slot) throws IndexOutOfBoundsException {
        throwUnlessGuardAndSlot(guard, slot);
        return roster.hasLeave(guard, slot);
    }

    public int leaveSlots(int guard) throws IndexOutOfBoundsException {
        throwUnlessGuard(guard);
        return roster.leaveTotal(guard);
    }

    // ---- rations and time

    public int addRations(int rations) throws IllegalArgumentException, IllegalStateException {
        throwFor(problemOfFood(rations));
        history.keep(roster);
        roster.store(rations);
        return roster.rationsLeft();
    }

    public int passSlots(int slots) throws IllegalArgumentException, IllegalStateException {
        throwFor(problemOfPassing(slots));
        history.keep(roster);
        return roster.letPass(slots);
    }

    public int rations() {
        return roster.rationsLeft();
    }

    public int currentSlot() {
        return roster.now();
    }

    public int missingRations() {
        return Math.max(0, roster.allDuties(roster.now()) - roster.rationsLeft());
    }

    // ---- refusals, statistics and output

    public int refusalReason() throws NoSuchElementException {
        throwUnlessRefused();
        return latestReason;
    }

    public int refusalDetail() throws NoSuchElementException {
        throwUnlessRefused();
        return latestDetail;
    }

    public double meanDuties() throws ArithmeticException {
        int guards = roster.guards();
        if (guards <= 0) {
            throw new ArithmeticException("there are no guards");
        }
        return (double) roster.allDuties(0) / (double) guards;
    }

    public float coveredFraction() throws ArithmeticException {
        int places = SLOTS * roster.gates();
        if (places <= 0) {
            throw new ArithmeticException("there are no gates");
        }
        return (float) roster.allDuties(0) / (float) places;
    }

    public int writeSlot(int slot) throws IndexOutOfBoundsException {
        throwUnlessSlot(slot);
        outputLength = 0;
        put(slot % 2 == 0 ? 'd' : 'n');
        putNumber(slot / 2);
        put(':');
        for (int gate = 0; gate < roster.gates(); gate++) {
            put(' ');
            putNumberOr(roster.guardOn(gate, slot), '-');
        }
        return outputLength;
    }

    public int writeGuard(int guard) throws IndexOutOfBoundsException {
        throwUnlessGuard(guard);
        outputLength = 0;
        for (int slot = 0; slot < SLOTS; slot++) {
            putNumberOr(roster.gateHeld(guard, slot), roster.hasLeave(guard, slot) ? 'x' : '.');
        }
        return outputLength;
    }

    public char outputCharacter(int index) throws IndexOutOfBoundsException {
        if (index < 0 || index >= outputLength || index >= MAX_OUTPUT) {
            throw new IndexOutOfBoundsException("there is no such character");
        }
        return output[index];
    }

    public boolean isConsistent() {
        if (openPlaces() != openPlacesBySlots()) {
            return false;
        }
        for (int slot = 0; slot < SLOTS; slot++) {
            if (mostDuties(slot) != mostDutiesBySets(slot)) {
                return false;
            }
        }
        return roster.allRest();
    }

    // ---- commands, undo and saved state

    public int feed(char character) throws IllegalStateException {
        if (text.isFull()) {
            throw new IllegalStateException("the input buffer is full");
        }
        return text.append(character);
    }

    public int execute() throws IllegalArgumentException, UnsupportedOperationException {
        boolean wellFormed = text.parse();
        text.empty();
        if (!wellFormed) {
            latestErrorPosition = text.firstWrong();
            throw new IllegalArgumentException("the text is malformed");
        }
        history.begin(roster);
        for (int command = 0; command < text.commands(); command++) {
            if (!runs(command)) {
                history.backOut(roster);
                latestFailedCommand = command;
                throw new UnsupportedOperationException("a command fails");
            }
        }
        history.end();
        return text.commands();
    }

    public int errorPosition() throws NoSuchElementException {
        if (latestErrorPosition == NONE) {
            throw new NoSuchElementException("no error position was kept");
        }
        return latestErrorPosition;
    }

    public int failedCommand() throws NoSuchElementException {
        if (latestFailedCommand == NONE) {
            throw new NoSuchElementException("no failed command was kept");
        }
        return latestFailedCommand;
    }

    public int undo() throws IllegalStateException {
        if (history.size() == 0) {
            throw new IllegalStateException("there is no change to undo");
        }
        history.takeBack(roster);
        return history.size();
    }

    public int undoCount() {
        return history.size();
    }

    public int save() {
        roster.copyTo(savedCells);
        saved = true;
        return roster.guards();
    }

    public int restore() throws IllegalStateException {
        if (!saved) {
            throw new IllegalStateException("nothing was saved");
        }
        roster.copyFrom(savedCells);
        history.forget();
        return roster.guards();
    }

    // ---- what stands in the way of a call

    private static void throwFor(int problem) {
        switch (problem) {
            case BAD_INDEX:
                throw new IndexOutOfBoundsException("there is no such gate, slot or guard");
            case BAD_ARGUMENT:
                throw new IllegalArgumentException("the argument is not allowed");
            case BAD_STATE:
                throw new IllegalStateException("the roster does not allow this now");
            case NOT_THERE:
                throw new NoSuchElementException("there is no such duty");
            case REFUSED:
                throw new UnsupportedOperationException("it is refused");
            default:
                break;
        }
    }

    private void throwUnlessGuard(int guard) {
        if (!roster.isGuard(guard)) {
            throw new IndexOutOfBoundsException("there is no such guard");
        }
    }

    private void throwUnlessSlot(int slot) {
        if (!roster.isSlot(slot)) {
            throw new IndexOutOfBoundsException("there is no such slot");
        }
    }

    private void throwUnlessGuardAndSlot(int guard, int slot) {
        throwUnlessGuard(guard);
        throwUnlessSlot(slot);
    }

    private void throwUnlessRefused() {
        if (latestReason == 0) {
            throw new NoSuchElementException("nothing was refused");
        }
    }

    private static boolean isRank(int rank) {
        return rank >= 1 && rank <= MAX_RANK;
    }

    private int problemOfGate(int neededRank) {
        if (!isRank(neededRank)) {
            return BAD_ARGUMENT;
        }
        return roster.gates() >= MAX_GATES ? BAD_STATE : NO_PROBLEM;
    }

    private int problemOfGuard(int rank) {
        if (!isRank(rank)) {
            return BAD_ARGUMENT;
        }
        return roster.guards() >= MAX_GUARDS ? BAD_STATE : NO_PROBLEM;
    }

    private int problemOfDuty(int gate, int slot, int guard) {
        if (!roster.isGate(gate) || !roster.isSlot(slot) || !roster.isGuard(guard)) {
            return BAD_INDEX;
        }
        if (roster.hasPassed(slot)) {
            return BAD_STATE;
        }
        return isRefused(gate, slot, guard) ? REFUSED : NO_PROBLEM;
    }

    private int problemOfFreeing(int gate, int slot) {
        if (!roster.isGate(gate) || !roster.isSlot(slot)) {
            return BAD_INDEX;
        }
        if (roster.hasPassed(slot)) {
            return BAD_STATE;
        }
        return roster.guardOn(gate, slot) == NONE ? NOT_THERE : NO_PROBLEM;
    }

    private int problemOfExchange(int gate, int slot, int otherGate, int otherSlot) {
        if (!roster.isGate(gate) || !roster.isSlot(slot)
                || !roster.isGate(otherGate) || !roster.isSlot(otherSlot)) {
            return BAD_INDEX;
        }
        if (gate == otherGate && slot == otherSlot) {
            return BAD_ARGUMENT;
        }
        if (roster.hasPassed(slot) || roster.hasPassed(otherSlot)) {
            return BAD_STATE;
        }
        if (roster.guardOn(gate, slot) == NONE || roster.guardOn(otherGate, otherSlot) == NONE) {
            return NOT_THERE;
        }
        return isExchangeRefused(gate, slot, otherGate, otherSlot) ? REFUSED : NO_PROBLEM;
    }

    private int problemOfFilling(int slot) {
        if (!roster.isSlot(slot)) {
            return BAD_INDEX;
        }
        return roster.hasPassed(slot) ? BAD_STATE : NO_PROBLEM;
    }

    private int problemOfLeave(int guard, int first, int last) {
        if (!roster.isGuard(guard)) {
            return BAD_INDEX;
        }
        if (!roster.isSlot(first) || !roster.isSlot(last) || first > last) {
            return BAD_ARGUMENT;
        }
        if (roster.hasPassed(first)) {
            return BAD_STATE;
        }
        int gate = roster.firstGateHeld(guard, first, last);
        if (gate != NONE) {
            keepRefusal(BUSY, gate);
            return REFUSED;
        }
        return NO_PROBLEM;
    }

    private int problemOfFood(int rations) {
        if (rations < 1 || rations > MAX_ADDED_RATIONS) {
            return BAD_ARGUMENT;
        }
        return roster.rationsLeft() + rations > MAX_RATIONS ? BAD_STATE : NO_PROBLEM;
    }

    private int problemOfPassing(int slots) {
        if (slots < 1 || slots > SLOTS) {
            return BAD_ARGUMENT;
        }
        return slots > SLOTS - roster.now() ? BAD_STATE : NO_PROBLEM;
    }

    private boolean isRefused(int gate, int slot, int guard) {
        int reason = roster.reasonAgainst(gate, slot, guard);
        if (reason == 0) {
            return false;
        }
        keepRefusal(reason, roster.detailOf(reason, gate, slot, guard));
        return true;
    }

    /** Tries the exchange on the roster, as its refusals depend on it, and takes it back. */
    private boolean isExchangeRefused(int gate, int slot, int otherGate, int otherSlot) {
        int guard = roster.guardOn(gate, slot);
        int otherGuard = roster.guardOn(otherGate, otherSlot);
        roster.setDuty(gate, slot, NONE);
        roster.setDuty(otherGate, otherSlot, NONE);
        boolean refused = isRefused(gate, slot, otherGuard);
        if (!refused) {
            roster.setDuty(gate, slot, otherGuard);
            refused = isRefused(otherGate, otherSlot, guard);
        }
        roster.setDuty(gate, slot, guard);
        roster.setDuty(otherGate, otherSlot, otherGuard);
        return refused;
    }

    private void keepRefusal(int reason, int detail) {
        latestReason = reason;
        latestDetail = detail;
    }

    // ---- commands

    private boolean runs(int command) {
        int kind = text.kind(command);
        int first = text.value(command, 0);
        int second = text.value(command, 1);
        int third = text.value(command, 2);
        if (problemOfCommand(kind, first, second, third) != NO_PROBLEM) {
            return false;
        }
        carryOut(kind, first, second, third);
        return true;
    }

    private int problemOfCommand(int kind, int first, int second, int third) {
        switch (kind) {
            case GATE:
                return problemOfGate(first);
            case GUARD:
                return problemOfGuard(first);
            case DUTY:
                return problemOfDuty(first, second, third);
            case FREE:
                return problemOfFreeing(first, second);
            case LEAVE:
                return problemOfLeave(first, second, third);
            case FILL:
                return problemOfFilling(first);
            case FOOD:
                return problemOfFood(first);
            case PASS:
                return problemOfPassing(first);
            default:
                return BAD_ARGUMENT;
        }
    }

    private void carryOut(int kind, int first, int second, int third) {
        switch (kind) {
            case GATE:
                roster.appendGate(first);
                break;
            case GUARD:
                roster.appendGuard(first);
                break;
            case DUTY:
                roster.setDuty(first, second, third);
                break;
            case FREE:
                roster.setDuty(first, second, NONE);
                break;
            case LEAVE:
                roster.addLeave(first, second, third);
                break;
            case FILL:
                roster.fill(first);
                break;
            case FOOD:
                roster.store(first);
                break;
            case PASS:
                roster.letPass(first);
                break;
            default:
                break;
        }
    }

    // ---- output

    private void put(char character) {
        if (outputLength >= 0 && outputLength < MAX_OUTPUT) {
            output[outputLength] = character;
            outputLength++;
        }
    }

    private void putNumber(int number) {
        if (number >= 10) {
            put((char) ('0' + number / 10));
        }
        put((char) ('0' + number % 10));
    }

    private void putNumberOr(int number, char otherwise) {
        if (number == NONE) {
            put(otherwise);
        } else {
            putNumber(number);
        }
    }

    /**
     * Everything that changes can change. It stands in one row of cells, so that keeping it for
     * undo or for a saved state is the copy of one row.
     */
    private static final class Roster {
        static final int GATE_COUNT = 0;
        static final int GUARD_COUNT = 1;
        static final int RATIONS = 2;
        static final int NOW = 3;
        static final int NEEDED_RANKS = 4;
        static final int RANKS = NEEDED_RANKS + MAX_GATES;
        static final int FAINTS = RANKS + MAX_GUARDS;
        /** For each guard a mask of the slots in which the guard is on leave. */
        static final int LEAVES = FAINTS + MAX_GUARDS;
        /** For each gate and slot the guard's index plus 1, or 0 without a duty. */
        static final int DUTIES = LEAVES + MAX_GUARDS;
        static final int SIZE = DUTIES + MAX_GATES * SLOTS;

        private final int[] cells = new int[SIZE];
        private final int[] orderKeys = new int[MAX_GUARDS];

        Roster() {
            cells[RATIONS] = FIRST_RATIONS;
        }

        void copyTo(int[] row) {
            if (row != null && row.length == SIZE) {
                System.arraycopy(cells, 0, row, 0, SIZE);
            }
        }

        void copyFrom(int[] row) {
            if (row != null && row.length == SIZE) {
                System.arraycopy(row, 0, cells, 0, SIZE);
            }
        }

        int gates() {
            return cells[GATE_COUNT];
        }

        int guards() {
            return cells[GUARD_COUNT];
        }

        int rationsLeft() {
            return cells[RATIONS];
        }

        int now() {
            return cells[NOW];
        }

        boolean isGate(int gate) {
            return gate >= 0 && gate < MAX_GATES && gate < cells[GATE_COUNT];
        }

        boolean isGuard(int guard) {
            return guard >= 0 && guard < MAX_GUARDS && guard < cells[GUARD_COUNT];
        }

        boolean isSlot(int slot) {
            return slot >= 0 && slot < SLOTS;
        }

        boolean hasPassed(int slot) {
            return slot < cells[NOW];
        }

        int rankNeededAt(int gate) {
            return isGate(gate) ? cells[NEEDED_RANKS + gate] : 0;
        }

        int rankOf(int guard) {
            return isGuard(guard) ? cells[RANKS + guard] : 0;
        }

        int faintsOf(int guard) {
            return isGuard(guard) ? cells[FAINTS + guard] : 0;
        }

        int appendGate(int neededRank) {
            int gate = cells[GATE_COUNT];
            if (gate >= 0 && gate < MAX_GATES) {
                cells[NEEDED_RANKS + gate] = neededRank;
                cells[GATE_COUNT] = gate + 1;
            }
            return gate;
        }

        int appendGuard(int rank) {
            int guard = cells[GUARD_COUNT];
            if (guard >= 0 && guard < MAX_GUARDS) {
                cells[RANKS + guard] = rank;
                cells[GUARD_COUNT] = guard + 1;
            }
            return guard;
        }

        // ---- duties

        int guardOn(int gate, int slot) {
            return isGate(gate) && isSlot(slot) ? cells[DUTIES + gate * SLOTS + slot] - 1 : NONE;
        }

        void setDuty(int gate, int slot, int guard) {
            if (isGate(gate) && isSlot(slot)) {
                cells[DUTIES + gate * SLOTS + slot] = guard + 1;
            }
        }

        int gateHeld(int guard, int slot) {
            if (slot < 0 || slot >= SLOTS || guard < 0) {
                return NONE;
            }
            for (int gate = 0; gate < MAX_GATES; gate++) {
                if (cells[DUTIES + gate * SLOTS + slot] == guard + 1) {
                    return gate;
                }
            }
            return NONE;
        }

        int firstGateHeld(int guard, int first, int last) {
            for (int slot = first; slot <= last && slot < SLOTS; slot++) {
                int gate = gateHeld(guard, slot);
                if (gate != NONE) {
                    return gate;
                }
            }
            return NONE;
        }

        int dutyTotal(int guard) {
            int total = 0;
            for (int cell = DUTIES; cell < SIZE; cell++) {
                if (cells[cell] == guard + 1) {
                    total++;
                }
            }
            return total;
        }

        int allDuties(int firstSlot) {
            int total = 0;
            for (int slot = Math.max(0, firstSlot); slot < SLOTS; slot++) {
                total += gates() - openGatesIn(slot);
            }
            return total;
        }

        int openGatesIn(int slot) {
            int open = 0;
            for (int gate = 0; gate < gates(); gate++) {
                if (guardOn(gate, slot) == NONE) {
                    open++;
                }
            }
            return open;
        }

        int openSlotsOf(int gate) {
            int open = 0;
            for (int slot = now(); slot < SLOTS; slot++) {
                if (guardOn(gate, slot) == NONE) {
                    open++;
                }
            }
            return open;
        }

        /** The first reason for which the duty is refused, or 0. */
        int reasonAgainst(int gate, int slot, int guard) {
            if (guardOn(gate, slot) != NONE) {
                return PLACE_TAKEN;
            }
            if (rankOf(guard) < rankNeededAt(gate)) {
                return RANK_TOO_LOW;
            }
            if (hasLeave(guard, slot)) {
                return ON_LEAVE;
            }
            if (gateHeld(guard, slot) != NONE) {
                return BUSY;
            }
            if (gateHeld(guard, slot - 1) != NONE) {
                return NO_REST_BEFORE;
            }
            return gateHeld(guard, slot + 1) != NONE ? NO_REST_AFTER : 0;
        }

        int detailOf(int reason, int gate, int slot, int guard) {
            switch (reason) {
                case PLACE_TAKEN:
                    return guardOn(gate, slot);
                case RANK_TOO_LOW:
                    return rankOf(guard);
                case ON_LEAVE:
                    return slot;
                case BUSY:
                    return gateHeld(guard, slot);
                case NO_REST_BEFORE:
                    return gateHeld(guard, slot - 1);
                default:
                    return gateHeld(guard, slot + 1);
            }
        }

        int nextSlotOf(int guard) {
            for (int slot = now(); slot < SLOTS; slot++) {
                if (gateHeld(guard, slot) != NONE) {
                    return slot;
                }
            }
            return NONE;
        }

        int longestGap(int guard) {
            int longest = 0;
            int gap = 0;
            for (int slot = 0; slot < SLOTS; slot++) {
                gap = gateHeld(guard, slot) == NONE ? gap + 1 : 0;
                longest = Math.max(longest, gap);
            }
            return longest;
        }

        boolean allRest() {
            for (int guard = 0; guard < guards(); guard++) {
                for (int slot = 1; slot < SLOTS; slot++) {
                    if (gateHeld(guard, slot - 1) != NONE && gateHeld(guard, slot) != NONE) {
                        return false;
                    }
                }
            }
            return true;
        }

        // ---- the order of the guards, and filling

        /** Fewer duties, then the lower rank, then the smaller index make the smaller key. */
        private void computeOrderKeys() {
            for (int guard = 0; guard < MAX_GUARDS; guard++) {
                orderKeys[guard] = (dutyTotal(guard) * (MAX_RANK + 1) + rankOf(guard)) * MAX_GUARDS + guard;
            }
        }

        int guardInOrder(int place) {
            computeOrderKeys();
            for (int guard = 0; guard < MAX_GUARDS && guard < guards(); guard++) {
                if (guardsBefore(orderKeys[guard]) == place) {
                    return guard;
                }
            }
            return NONE;
        }

        private int guardsBefore(int key) {
            int before = 0;
            for (int guard = 0; guard < MAX_GUARDS && guard < guards(); guard++) {
                if (orderKeys[guard] < key) {
                    before++;
                }
            }
            return before;
        }

        int fill(int slot) {
            // One slot gives a guard one duty at most, so that the keys of those who are still free stay right.
            computeOrderKeys();
            int added = 0;
            int considered = 0;
            for (int round = 0; round < gates(); round++) {
                int gate = mostNeedingGate(considered);
                considered |= 1 << gate;
                int guard = firstGuardFor(gate, slot);
                if (guard != NONE) {
                    setDuty(gate, slot, guard);
                    added++;
                }
            }
            return added;
        }

        private int mostNeedingGate(int considered) {
            int found = NONE;
            for (int gate = 0; gate < gates(); gate++) {
                boolean isLeft = (considered >> gate & 1) == 0;
                if (isLeft && (found == NONE || rankNeededAt(gate) > rankNeededAt(found))) {
                    found = gate;
                }
            }
            return found;
        }

        private int firstGuardFor(int gate, int slot) {
            int found = NONE;
            for (int guard = 0; guard < MAX_GUARDS && guard < guards(); guard++) {
                boolean isEarlier = found == NONE || orderKeys[guard] < orderKeys[found];
                if (isEarlier && reasonAgainst(gate, slot, guard) == 0) {
                    found = guard;
                }
            }
            return found;
        }

        // ---- leave

        boolean hasLeave(int guard, int slot) {
            return isGuard(guard) && (cells[LEAVES + guard] >> slot & 1) == 1;
        }

        int leaveTotal(int guard) {
            return isGuard(guard) ? Integer.bitCount(cells[LEAVES + guard]) : 0;
        }

        int addLeave(int guard, int first, int last) {
            int before = leaveTotal(guard);
            for (int slot = first; slot <= last && slot < SLOTS; slot++) {
                if (isGuard(guard)) {
                    cells[LEAVES + guard] |= 1 << slot;
                }
            }
            return leaveTotal(guard) - before;
        }

        void dropLeave(int guard, int slot) {
            if (isGuard(guard)) {
                cells[LEAVES + guard] &= ~(1 << slot);
            }
        }

        // ---- rations and time

        void store(int rations) {
            cells[RATIONS] += rations;
        }

        int letPass(int slots) {
            int fainted = 0;
            for (int passed = 0; passed < slots && cells[NOW] < SLOTS; passed++) {
                fainted += feedGuardsOf(cells[NOW]);
                cells[NOW]++;
            }
            return fainted;
        }

        /** Answers how many of the slot's guards faint. */
        private int feedGuardsOf(int slot) {
            int fainted = 0;
            for (int gate = 0; gate < gates(); gate++) {
                int guard = guardOn(gate, slot);
                if (isGuard(guard) && cells[RATIONS] > 0) {
                    cells[RATIONS]--;
                } else if (isGuard(guard)) {
                    cells[FAINTS + guard]++;
                    fainted++;
                }
            }
            return fainted;
        }
    }

    /** The rows before the latest changes, in a ring. */
    private static final class History {
        // One row more than changes: the row of a change that may yet fail overwrites none.
        private static final int ROWS = MAX_CHANGES + 1;

        private final int[][] rows = new int[ROWS][Roster.SIZE];
        private int next;
        private int size;

        int size() {
            return size;
        }

        void keep(Roster roster) {
            begin(roster);
            end();
        }

        void begin(Roster roster) {
            if (next >= 0 && next < ROWS) {
                roster.copyTo(rows[next]);
            }
        }

        void end() {
            next = next + 1 < ROWS ? next + 1 : 0;
            size = Math.min(MAX_CHANGES, size + 1);
        }

        void backOut(Roster roster) {
            if (next >= 0 && next < ROWS) {
                roster.copyFrom(rows[next]);
            }
        }

        void takeBack(Roster roster) {
            if (size > 0) {
                size--;
                next = next > 0 ? next - 1 : ROWS - 1;
                backOut(roster);
            }
        }

        void forget() {
            size = 0;
        }
    }

    /** Which guards each gate could get in one slot, and how many gates can get one at once. */
    private static final class SlotPlan {
        private static final int SETS = 1 << MAX_GATES;

        /** For each gate a mask of the guards whose duty there would not be refused. */
        private final int[] fits = new int[MAX_GATES];
        /** For each guard the gate's index plus 1, or 0. */
        private final int[] gateGiven = new int[MAX_GUARDS];
        private int triedGuards;
        /** For each set of gates the guards that fit at least one of them. */
        private final int[] guardsOfSet = new int[SETS];

        void prepare(Roster roster, int slot) {
            for (int gate = 0; gate < MAX_GATES; gate++) {
                fits[gate] = roster.isGate(gate) ? guardsThatFit(roster, gate, slot) : 0;
            }
        }

        private static int guardsThatFit(Roster roster, int gate, int slot) {
            int guards = 0;
            for (int guard = 0; guard < roster.guards(); guard++) {
                if (roster.reasonAgainst(gate, slot, guard) == 0) {
                    guards |= 1 << guard;
                }
            }
            return guards;
        }

        int countByPaths() {
            for (int guard = 0; guard < MAX_GUARDS; guard++) {
                gateGiven[guard] = 0;
            }
            int count = 0;
            for (int gate = 0; gate < MAX_GATES; gate++) {
                triedGuards = 0;
                if (finds(this, gate, 0)) {
                    count++;
                }
            }
            return count;
        }

        /** Finds a guard for the gate, if need be by finding another one for a gate that has one. */
        private static boolean finds(SlotPlan plan, int gate, int depth) {
            // Each level stands at another gate, so that no path is longer than the gates are many.
            if (depth >= MAX_GATES || gate < 0 || gate >= MAX_GATES) {
                return false;
            }
            for (int guard = 0; guard < MAX_GUARDS; guard++) {
                int bit = 1 << guard;
                if ((plan.fits[gate] & bit) != 0 && (plan.triedGuards & bit) == 0) {
                    plan.triedGuards |= bit;
                    int given = plan.gateGiven[guard];
                    if (given == 0 || finds(plan, given - 1, depth + 1)) {
                        plan.gateGiven[guard] = gate + 1;
                        return true;
                    }
                }
            }
            return false;
        }

        /**
         * In each set of gates at least as many stay empty as it has more gates than guards that
         * fit one of them; the set that lacks most (Hall, Ore) tells how many stay empty in all.
         */
        int countBySets() {
            int mostLacking = 0;
            for (int set = 1; set < SETS; set++) {
                int lowest = Integer.numberOfTrailingZeros(set);
                if (lowest < MAX_GATES) {
                    guardsOfSet[set] = guardsOfSet[set & (set - 1)] | fits[lowest];
                }
                int lacking = Integer.bitCount(set) - Integer.bitCount(guardsOfSet[set]);
                mostLacking = Math.max(mostLacking, lacking);
            }
            return MAX_GATES - mostLacking;
        }
    }

    /** The input buffer, and the commands that were last read from it. */
    private static final class CommandText {
        private static final int MAX_VALUES = 3;
        // The shortest command has six characters, so that eight fit; the ninth can begin but not end.
        private static final int MAX_COMMANDS = 9;
        private static final int END = -1;

        private final char[] characters = new char[MAX_TEXT];
        private int length;
        private final int[] kinds = new int[MAX_COMMANDS];
        private final int[] values = new int[MAX_COMMANDS * MAX_VALUES];
        private int count;
        private int wrong;

        boolean isFull() {
            return length >= MAX_TEXT;
        }

        int append(char character) {
            if (length >= 0 && length < MAX_TEXT) {
                characters[length] = character;
                length++;
            }
            return length;
        }

        void empty() {
            length = 0;
        }

        int commands() {
            return count;
        }

        int firstWrong() {
            return wrong;
        }

        int kind(int command) {
            return command >= 0 && command < MAX_COMMANDS ? kinds[command] : NONE;
        }

        int value(int command, int place) {
            int index = command * MAX_VALUES + place;
            return index >= 0 && index < values.length ? values[index] : 0;
        }

        /** Reads all commands; answers false if the text is malformed, with the place kept. */
        boolean parse() {
            count = 0;
            int at = 0;
            while (count < MAX_COMMANDS) {
                int end = readCommand(at);
                if (end == NONE) {
                    return false;
                }
                count++;
                int next = characterAt(end);
                if (next == END) {
                    return true;
                }
                if (next != ';') {
                    wrong = end;
                    return false;
                }
                at = end + 1;
            }
            wrong = at;
            return false;
        }

        /** Answers where the command ends, or NONE with the furthest place that some command reached. */
        private int readCommand(int start) {
            int furthest = start;
            for (int kind = 0; kind < COMMAND_KINDS; kind++) {
                int end = readShape(shapeOf(kind), start);
                if (end != NONE) {
                    if (count >= 0 && count < MAX_COMMANDS) {
                        kinds[count] = kind;
                    }
                    return end;
                }
                furthest = Math.max(furthest, wrong);
            }
            wrong = furthest;
            return NONE;
        }

        /** In a shape '#' stands for a digit and '%' for a number. */
        private static String shapeOf(int kind) {
            switch (kind) {
                case GATE:
                    return "gate #";
                case GUARD:
                    return "guard #";
                case DUTY:
                    return "duty #@%=#";
                case FREE:
                    return "free #@%";
                case LEAVE:
                    return "leave # %-%";
                case FILL:
                    return "fill %";
                case FOOD:
                    return "food %";
                default:
                    return "pass %";
            }
        }

        private int readShape(String shape, int start) {
            int at = start;
            int place = 0;
            for (int i = 0; i < shape.length(); i++) {
                char due = shape.charAt(i);
                int found = characterAt(at);
                boolean isValue = due == '#' || due == '%';
                if (isValue ? !isDigit(found) : found != due) {
                    wrong = at;
                    return NONE;
                }
                at++;
                if (isValue) {
                    int value = found - '0';
                    int second = characterAt(at);
                    if (due == '%' && isDigit(second)) {
                        value = value * 10 + second - '0';
                        at++;
                    }
                    keepValue(place, value);
                    place++;
                }
            }
            return at;
        }

        private void keepValue(int place, int value) {
            int index = count * MAX_VALUES + place;
            if (index >= 0 && index < values.length) {
                values[index] = value;
            }
        }

        private int characterAt(int index) {
            return index >= 0 && index < length && index < MAX_TEXT ? characters[index] : END;
        }

        private static boolean isDigit(int character) {
            return character >= '0' && character <= '9';
        }
    }
}
