/** Promises 1 to 8: gates and guards. */
final class BoundariesOfGates extends Boundaries {
    static void all() {
        newObjectCounts();
        newObjectThrows();
        addGate();
        addGuard();
        counts();
        neededRank();
        rank();
        faints();
    }

    private static void newObjectCounts() {
        about(1, "Creates a roster without gates and guards at slot 0.");
        GuardRoster x = new GuardRoster();
        check.is(0, x::gateCount);
        check.is(0, x::guardCount);
        check.is(0, x::currentSlot);
        check.is(20, x::rations);
        check.is(0, x::missingRations);
        check.is(0, x::dutyCount);
        check.is(0, x::openPlaces);
        check.is(0, x::openPlacesBySlots);
        check.is(0, x::undoCount);
        check.is(true, x::isConsistent);
        for (int slot : new int[] {0, 27}) {
            check.is(0, () -> x.openGates(slot));
            check.is(0, () -> x.mostDuties(slot));
            check.is(0, () -> x.mostDutiesBySets(slot));
            check.is(0, () -> x.fillSlot(slot));
        }
        check.is(0, x::save);
        check.is(0, x::restore);
    }

    private static void newObjectThrows() {
        GuardRoster x = new GuardRoster();
        Call[] needGateOrGuard = {y -> y.neededRank(0), y -> y.rank(0), y -> y.faints(0), y -> y.assign(0, 0, 0),
            y -> y.canAssign(0, 0, 0), y -> y.remove(0, 0), y -> y.exchange(0, 0, 0, 0), y -> y.guardAt(0, 0),
            y -> y.gateOf(0, 0), y -> y.dutiesOf(0), y -> y.nextDuty(0), y -> y.longestRest(0),
            y -> y.grantLeave(0, 0, 0), y -> y.endLeave(0, 0), y -> y.isOnLeave(0, 0), y -> y.leaveSlots(0),
            y -> y.writeGuard(0), y -> y.outputCharacter(0)};
        for (Call call : needGateOrGuard) {
            check.is(INDEX, () -> call.on(x));
        }
        check.is(NO_ELEMENT, () -> x.guardByDuties(0));
        check.is(NO_ELEMENT, x::refusalReason);
        check.is(NO_ELEMENT, x::refusalDetail);
        check.is(NO_ELEMENT, x::errorPosition);
        check.is(NO_ELEMENT, x::failedCommand);
        check.is(ARITHMETIC, x::meanDuties);
        check.is(ARITHMETIC, x::coveredFraction);
        check.is(STATE, x::undo);
        check.is(STATE, x::restore);
        check.is(ARGUMENT, x::execute);
    }

    private static void addGate() {
        about(2, "Returns the index of the gate.");
        GuardRoster x = new GuardRoster();
        for (int gate = 0; gate < 5; gate++) {
            check.is(gate, () -> x.addGate(9));
        }
        about(2, "Throws IllegalArgumentException if neededRank is not from 1 to 9");
        for (int wrong : beside(1, 9)) {
            changesNothing(ARGUMENT, made("", ""), y -> y.addGate(wrong));
            changesNothing(ARGUMENT, made("15", "5"), y -> y.addGate(wrong));
        }
        for (int rank = 1; rank <= 9; rank++) {
            int right = rank;
            GuardRoster one = new GuardRoster();
            check.is(0, () -> one.addGate(right));
            check.is(right, () -> one.neededRank(0));
        }
        about(2, "Throws IllegalStateException if there are 5 gates");
        for (int rank : new int[] {1, 9}) {
            changesNothing(STATE, made("12345", "9"), y -> y.addGate(rank));
        }
        x.undo();
        check.is(4, () -> x.addGate(1));
        check.is(STATE, () -> x.addGate(1));
        check.is(1, () -> x.neededRank(4));
    }

    private static void addGuard() {
        about(3, "Returns the index of the guard.");
        GuardRoster x = new GuardRoster();
        for (int guard = 0; guard < 10; guard++) {
            check.is(guard, () -> x.addGuard(9));
        }
        about(3, "Throws IllegalArgumentException if rank is not from 1 to 9");
        for (int wrong : beside(1, 9)) {
            changesNothing(ARGUMENT, made("", ""), y -> y.addGuard(wrong));
            changesNothing(ARGUMENT, made("1", "15"), y -> y.addGuard(wrong));
        }
        for (int rank = 1; rank <= 9; rank++) {
            int right = rank;
            GuardRoster one = new GuardRoster();
            check.is(0, () -> one.addGuard(right));
            check.is(right, () -> one.rank(0));
        }
        about(3, "Throws IllegalStateException if there are 10 guards");
        for (int rank : new int[] {1, 9}) {
            changesNothing(STATE, made("1", "1234567891"), y -> y.addGuard(rank));
        }
        x.undo();
        check.is(9, () -> x.addGuard(1));
        check.is(STATE, () -> x.addGuard(1));
        check.is(1, () -> x.rank(9));
    }

    private static void counts() {
        about(4, "gateCount(): Returns the number of gates");
        for (String gates : new String[] {"", "9", "11111"}) {
            check.is(gates.length(), () -> roster(gates, "123456").gateCount());
        }
        about(5, "guardCount(): Returns the number of guards");
        for (String guards : new String[] {"", "9", "1111111111"}) {
            check.is(guards.length(), () -> roster("12", guards).guardCount());
        }
    }

    private static void neededRank() {
        about(6, "Throws IndexOutOfBoundsException if there is no such gate");
        for (int wrong : beside(0, 2)) {
            changesNothing(INDEX, made("159", "1111"), y -> y.neededRank(wrong));
        }
        for (int wrong : beside(0, 4)) {
            changesNothing(INDEX, made("12345", "1111111"), y -> y.neededRank(wrong));
        }
        changesNothing(INDEX, made("", "1"), y -> y.neededRank(0));
        changesNothing(INDEX, made("15", "1", GuardRoster::undo, GuardRoster::undo), y -> y.neededRank(1));
        about(6, "Returns the rank.");
        GuardRoster x = roster("12349", "");
        check.is(1, () -> x.neededRank(0));
        check.is(9, () -> x.neededRank(4));
    }

    private static void rank() {
        about(7, "Throws IndexOutOfBoundsException if there is no such guard");
        for (int wrong : beside(0, 1)) {
            changesNothing(INDEX, made("1111", "19"), y -> y.rank(wrong));
        }
        for (int wrong : beside(0, 9)) {
            changesNothing(INDEX, made("1", "1234567891"), y -> y.rank(wrong));
        }
        changesNothing(INDEX, made("1", ""), y -> y.rank(0));
        changesNothing(INDEX, made("1", "15", GuardRoster::undo), y -> y.rank(1));
        about(7, "Returns the rank.");
        GuardRoster x = roster("", "1234567899");
        check.is(1, () -> x.rank(0));
        check.is(9, () -> x.rank(9));
    }

    private static void faints() {
        about(8, "Throws IndexOutOfBoundsException if there is no such guard");
        for (int wrong : beside(0, 1)) {
            changesNothing(INDEX, made("1111", "19"), y -> y.faints(wrong));
        }
        for (int wrong : beside(0, 9)) {
            changesNothing(INDEX, made("1", "1234567891"), y -> y.faints(wrong));
        }
        changesNothing(INDEX, made("1", ""), y -> y.faints(0));
        about(8, "Returns the number of times.");
        GuardRoster x = BoundariesOfRations.full();
        check.is(0, () -> x.faints(0));
        x.passSlots(4);
        // The first four slots eat all 20 rations.
        check.is(0, () -> x.faints(0));
        check.is(0, () -> x.faints(9));
        x.passSlots(1);
        check.is(1, () -> x.faints(0));
        check.is(1, () -> x.faints(4));
        check.is(0, () -> x.faints(5));
        x.passSlots(23);
        for (int guard = 0; guard < 10; guard++) {
            int each = guard;
            check.is(12, () -> x.faints(each));
        }
    }
}
