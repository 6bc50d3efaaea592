import java.util.function.Supplier;

/** For each promise of the document, by its number: ordinary inputs, its edges and wrong inputs. */
public final class GuardRosterPromisesTest extends RosterCalls {
    public static void main(String[] args) {
        newObject();
        addGate();
        addGuard();
        counts();
        ranks();
        faints();
        assign();
        reasonsInTheirOrder();
        canAssign();
        remove();
        exchange();
        exchangeRefused();
        fillSlot();
        fillSlotPrefers();
        guardAtAndGateOf();
        dutyNumbers();
        openPlaces();
        mostDuties();
        nextDuty();
        longestRest();
        guardByDuties();
        grantLeave();
        endLeave();
        leaveQueries();
        addRations();
        passSlots();
        missingRations();
        refusals();
        statistics();
        writeSlot();
        writeGuard();
        outputCharacter();
        isConsistent();
        feed();
        executeEachCommand();
        executeAllOrNone();
        executeExceptions();
        errorPosition();
        failedCommand();
        undo();
        undoEachChange();
        undoLeavesAside();
        saveAndRestore();
        check.end();
    }

    private static void newObject() {
        check.at("1 a new object");
        GuardRoster x = new GuardRoster();
        check.is(0, x::gateCount);
        check.is(0, x::guardCount);
        check.is(0, x::currentSlot);
        check.is(20, x::rations);
        check.is(0, x::dutyCount);
        check.is(0, x::undoCount);
        check.is(0, x::missingRations);
        check.is(0, x::openPlaces);
        check.is(0, x::openPlacesBySlots);
        check.is(true, x::isConsistent);
        check.is(0, () -> x.fillSlot(0));
    }

    private static void addGate() {
        check.at("2 addGate");
        GuardRoster x = new GuardRoster();
        for (int wrong : new int[] {LEAST, -1, 0, 10, MOST}) {
            check.is(ARGUMENT, () -> x.addGate(wrong));
        }
        check.is(0, () -> x.addGate(1));
        check.is(1, () -> x.addGate(9));
        check.is(2, () -> x.addGate(5));
        check.is(3, () -> x.addGate(5));
        check.is(4, () -> x.addGate(2));
        check.is(STATE, () -> x.addGate(1));
        check.is(ARGUMENT, () -> x.addGate(0));
        check.is(ARGUMENT, () -> x.addGate(10));
        check.is(5, x::gateCount);
        check.is(5, x::undoCount);
    }

    private static void addGuard() {
        check.at("3 addGuard");
        GuardRoster x = new GuardRoster();
        for (int wrong : new int[] {LEAST, -1, 0, 10, MOST}) {
            check.is(ARGUMENT, () -> x.addGuard(wrong));
        }
        check.is(0, () -> x.addGuard(1));
        check.is(1, () -> x.addGuard(9));
        for (int i = 2; i < 10; i++) {
            check.is(i, () -> x.addGuard(4));
        }
        check.is(STATE, () -> x.addGuard(4));
        check.is(ARGUMENT, () -> x.addGuard(0));
        check.is(ARGUMENT, () -> x.addGuard(10));
        check.is(10, x::guardCount);
    }

    private static void counts() {
        check.at("4, 5 gateCount, guardCount");
        GuardRoster x = roster("123", "12");
        check.is(3, x::gateCount);
        check.is(2, x::guardCount);
        x.undo();
        check.is(3, x::gateCount);
        check.is(1, x::guardCount);
    }

    private static void ranks() {
        check.at("6 neededRank");
        GuardRoster x = roster("38", "19");
        check.is(3, () -> x.neededRank(0));
        check.is(8, () -> x.neededRank(1));
        check.is(INDEX, () -> x.neededRank(2));
        check.is(INDEX, () -> x.neededRank(-1));
        check.is(INDEX, () -> x.neededRank(MOST));
        check.is(INDEX, () -> x.neededRank(LEAST));
        check.at("7 rank");
        check.is(1, () -> x.rank(0));
        check.is(9, () -> x.rank(1));
        check.is(INDEX, () -> x.rank(2));
        check.is(INDEX, () -> x.rank(-1));
        check.is(INDEX, () -> x.rank(MOST));
        check.is(INDEX, () -> x.rank(LEAST));
    }

    private static void faints() {
        check.at("8 faints");
        GuardRoster x = roster("11111", "1111111111");
        for (int slot = 0; slot < 6; slot++) {
            x.fillSlot(slot);
        }
        check.is(0, () -> x.faints(0));
        check.is(0, () -> x.passSlots(4));
        check.is(0, x::rations);
        check.is(5, () -> x.passSlots(1));
        check.is(1, () -> x.faints(0));
        check.is(0, () -> x.faints(9));
        check.is(5, () -> x.passSlots(1));
        check.is(1, () -> x.faints(9));
        check.is(INDEX, () -> x.faints(10));
        check.is(INDEX, () -> x.faints(-1));
        check.is(INDEX, () -> x.faints(LEAST));
        x.undo();
        check.is(0, () -> x.faints(9));
    }

    private static void assign() {
        check.at("9 assign");
        GuardRoster x = roster("11", "11");
        for (int wrong : new int[] {LEAST, -1, 2, MOST}) {
            check.is(INDEX, () -> x.assign(wrong, 0, 0));
            check.is(INDEX, () -> x.assign(0, 0, wrong));
        }
        for (int wrong : new int[] {LEAST, -1, 28, MOST}) {
            check.is(INDEX, () -> x.assign(0, wrong, 0));
        }
        check.is(1, () -> x.assign(0, 0, 0));
        check.is(2, () -> x.assign(1, 27, 0));
        check.is(1, () -> x.assign(1, 0, 1));
        x.passSlots(3);
        check.is(STATE, () -> x.assign(0, 2, 0));
        check.is(STATE, () -> x.assign(0, 0, 0));
        check.is(INDEX, () -> x.assign(2, 2, 0));
        check.is(NO_ELEMENT, x::refusalReason);
        check.is(3, () -> x.assign(0, 3, 0));
        check.is(REFUSED, () -> x.assign(0, 3, 1));
        check.is(4, x::dutyCount);
        x.passSlots(25);
        check.is(STATE, () -> x.assign(0, 27, 1));
    }

    private static void reasonsInTheirOrder() {
        check.at("9 reasons");
        GuardRoster x = roster("5111", "195");
        // Guard 1 stands in the slots 4 and 8, guard 2 in slot 6.
        x.assign(1, 4, 1);
        x.assign(2, 8, 1);
        x.assign(0, 6, 2);
        refusesDuty(x, 0, 6, 0, GuardRoster.PLACE_TAKEN, 2);
        refusesDuty(x, 0, 6, 2, GuardRoster.PLACE_TAKEN, 2);
        refusesDuty(x, 0, 4, 0, GuardRoster.RANK_TOO_LOW, 1);
        refusesDuty(x, 0, 4, 1, GuardRoster.BUSY, 1);
        refusesDuty(x, 0, 5, 1, GuardRoster.NO_REST_BEFORE, 1);
        refusesDuty(x, 0, 7, 1, GuardRoster.NO_REST_AFTER, 2);
        refusesDuty(x, 3, 7, 2, GuardRoster.NO_REST_BEFORE, 0);
        refusesDuty(x, 3, 5, 2, GuardRoster.NO_REST_AFTER, 0);
        x.grantLeave(1, 5, 7);
        x.grantLeave(0, 9, 9);
        refusesDuty(x, 3, 5, 1, GuardRoster.ON_LEAVE, 5);
        refusesDuty(x, 3, 7, 1, GuardRoster.ON_LEAVE, 7);
        refusesDuty(x, 0, 9, 0, GuardRoster.RANK_TOO_LOW, 1);
        refusesDuty(x, 1, 9, 0, GuardRoster.ON_LEAVE, 9);
        refusesDuty(x, 0, 6, 1, GuardRoster.PLACE_TAKEN, 2);
        // Between two duties the one before is named first.
        x.assign(3, 10, 1);
        refusesDuty(x, 3, 9, 1, GuardRoster.NO_REST_BEFORE, 2);
        check.is(1, () -> x.assign(3, 6, 0));
        GuardRoster ends = roster("11", "1");
        check.is(1, () -> ends.assign(0, 0, 0));
        check.is(2, () -> ends.assign(1, 27, 0));
        refusesDuty(ends, 0, 27, 0, GuardRoster.BUSY, 1);
        refusesDuty(ends, 0, 26, 0, GuardRoster.NO_REST_AFTER, 1);
        refusesDuty(ends, 1, 1, 0, GuardRoster.NO_REST_BEFORE, 0);
        ends.passSlots(1);
        refusesDuty(ends, 1, 1, 0, GuardRoster.NO_REST_BEFORE, 0);
    }

    private static void refusesDuty(GuardRoster x, int gate, int slot, int guard, int reason, int detail) {
        check.is(false, () -> x.canAssign(gate, slot, guard));
        check.is(REFUSED, () -> x.assign(gate, slot, guard));
        check.is(reason, x::refusalReason);
        check.is(detail, x::refusalDetail);
    }

    private static void canAssign() {
        check.at("10 canAssign");
        GuardRoster x = roster("15", "14");
        for (int wrong : new int[] {LEAST, -1, 2, MOST}) {
            check.is(INDEX, () -> x.canAssign(wrong, 0, 0));
            check.is(INDEX, () -> x.canAssign(0, 0, wrong));
        }
        for (int wrong : new int[] {LEAST, -1, 28, MOST}) {
            check.is(INDEX, () -> x.canAssign(0, wrong, 0));
        }
        check.is(true, () -> x.canAssign(0, 0, 0));
        check.is(true, () -> x.canAssign(0, 27, 1));
        check.is(false, () -> x.canAssign(1, 0, 1));
        check.is(NO_ELEMENT, x::refusalReason);
        check.is(0, x::dutyCount);
        x.passSlots(2);
        check.is(false, () -> x.canAssign(0, 1, 0));
        check.is(true, () -> x.canAssign(0, 2, 0));
        check.is(3 + 2, x::undoCount);
    }

    private static void remove() {
        check.at("11 remove");
        GuardRoster x = roster("11", "11");
        x.assign(1, 5, 1);
        x.assign(0, 1, 0);
        for (int wrong : new int[] {LEAST, -1, 2, MOST}) {
            check.is(INDEX, () -> x.remove(wrong, 5));
        }
        for (int wrong : new int[] {LEAST, -1, 28, MOST}) {
            check.is(INDEX, () -> x.remove(1, wrong));
        }
        check.is(NO_ELEMENT, () -> x.remove(0, 5));
        check.is(1, () -> x.remove(1, 5));
        check.is(NO_ELEMENT, () -> x.remove(1, 5));
        check.is(1, x::dutyCount);
        check.is(true, () -> x.canAssign(1, 4, 1));
        x.passSlots(2);
        check.is(STATE, () -> x.remove(0, 1));
        check.is(STATE, () -> x.remove(1, 1));
        check.is(INDEX, () -> x.remove(2, 1));
        check.is(1, x::dutyCount);
    }

    private static void exchange() {
        check.at("12 exchange");
        GuardRoster x = roster("111", "11");
        x.assign(0, 4, 0);
        x.assign(1, 4, 1);
        x.assign(2, 8, 0);
        for (int wrong : new int[] {LEAST, -1, 3, MOST}) {
            check.is(INDEX, () -> x.exchange(wrong, 4, 1, 4));
            check.is(INDEX, () -> x.exchange(0, 4, wrong, 4));
        }
        for (int wrong : new int[] {LEAST, -1, 28, MOST}) {
            check.is(INDEX, () -> x.exchange(0, wrong, 1, 4));
            check.is(INDEX, () -> x.exchange(0, 4, 1, wrong));
        }
        check.is(INDEX, () -> x.exchange(3, 4, 3, 4));
        check.is(ARGUMENT, () -> x.exchange(0, 4, 0, 4));
        check.is(ARGUMENT, () -> x.exchange(0, 9, 0, 9));
        check.is(NO_ELEMENT, () -> x.exchange(0, 4, 2, 4));
        check.is(NO_ELEMENT, () -> x.exchange(2, 4, 0, 4));
        check.is(1, () -> x.exchange(0, 4, 1, 4));
        check.is("d2: 1 0 -", () -> slot(x, 4));
        x.remove(1, 4);
        check.is(0, () -> x.exchange(0, 4, 2, 8));
        check.is(1, () -> x.guardAt(2, 8));
        check.is(0, () -> x.guardAt(0, 4));
        check.at("12 exchange of one guard's duties");
        GuardRoster same = roster("12", "5");
        same.assign(0, 2, 0);
        same.assign(1, 4, 0);
        int before = same.undoCount();
        check.is(0, () -> same.exchange(0, 2, 1, 4));
        check.is(before + 1, same::undoCount);
        check.is("..0.1.......................", () -> guard(same, 0));
        check.at("12 exchange, passed");
        x.passSlots(5);
        check.is(STATE, () -> x.exchange(0, 4, 2, 8));
        check.is(STATE, () -> x.exchange(2, 8, 0, 4));
        check.is(STATE, () -> x.exchange(2, 9, 0, 0));
        check.is(ARGUMENT, () -> x.exchange(0, 4, 0, 4));
        check.is(NO_ELEMENT, () -> x.exchange(2, 8, 2, 9));
        check.is(NO_ELEMENT, x::refusalReason);
        check.is(NO_ELEMENT, () -> x.exchange(2, 5, 2, 8));
    }

    private static void exchangeRefused() {
        check.at("12 exchange refused");
        GuardRoster x = roster("51", "59");
        x.addGuard(1);
        x.assign(0, 4, 0);
        x.assign(1, 6, 2);
        int changes = x.undoCount();
        exchangeRefuses(x, 0, 4, 1, 6, GuardRoster.RANK_TOO_LOW, 1);
        exchangeRefuses(x, 1, 6, 0, 4, GuardRoster.RANK_TOO_LOW, 1);
        check.is(changes, x::undoCount);
        check.is("....0.......................", () -> guard(x, 0));
        check.is("......1.....................", () -> guard(x, 2));
        // Guard 1 may take slot 4, but guard 0 is then refused in slot 10.
        x.assign(1, 10, 1);
        x.grantLeave(0, 10, 10);
        exchangeRefuses(x, 0, 4, 1, 10, GuardRoster.ON_LEAVE, 10);
        exchangeRefuses(x, 1, 10, 0, 4, GuardRoster.ON_LEAVE, 10);
        check.is("....0.....x.................", () -> guard(x, 0));
        check.is("..........1.................", () -> guard(x, 1));
        x.endLeave(0, 10);
        x.assign(0, 11, 0);
        exchangeRefuses(x, 0, 4, 1, 10, GuardRoster.NO_REST_AFTER, 0);
        x.remove(0, 11);
        x.assign(0, 9, 0);
        exchangeRefuses(x, 0, 4, 1, 10, GuardRoster.NO_REST_BEFORE, 0);
        check.at("12 exchange: the removed duties bar no rest");
        GuardRoster next = roster("11", "11");
        next.assign(0, 4, 0);
        next.assign(1, 5, 1);
        check.is(1, () -> next.exchange(0, 4, 1, 5));
        check.is(".....1......................", () -> guard(next, 0));
        check.is("....0.......................", () -> guard(next, 1));
        check.at("12 exchange: one guard stands there already");
        GuardRoster busy = roster("111", "11");
        busy.assign(0, 4, 0);
        busy.assign(1, 4, 1);
        busy.assign(2, 8, 1);
        exchangeRefuses(busy, 0, 4, 2, 8, GuardRoster.BUSY, 1);
        exchangeRefuses(busy, 2, 8, 0, 4, GuardRoster.BUSY, 1);
        check.is("d2: 0 1 -", () -> slot(busy, 4));
        check.is("d4: - - 1", () -> slot(busy, 8));
    }

    private static void exchangeRefuses(GuardRoster x, int gate, int slot, int otherGate, int otherSlot, int reason,
            int detail) {
        check.is(REFUSED, () -> x.exchange(gate, slot, otherGate, otherSlot));
        check.is(reason, x::refusalReason);
        check.is(detail, x::refusalDetail);
    }

    private static void fillSlot() {
        check.at("13 fillSlot");
        GuardRoster x = roster("159", "19");
        for (int wrong : new int[] {LEAST, -1, 28, MOST}) {
            check.is(INDEX, () -> x.fillSlot(wrong));
        }
        check.is(2, () -> x.fillSlot(0));
        check.is("d0: 0 - 1", () -> slot(x, 0));
        check.is(0, () -> x.fillSlot(0));
        check.is(0, () -> x.fillSlot(1));
        check.is(2, () -> x.fillSlot(27));
        check.is(8, x::undoCount);
        check.is(NO_ELEMENT, x::refusalReason);
        x.passSlots(4);
        check.is(STATE, () -> x.fillSlot(3));
        check.is(2, () -> x.fillSlot(4));
        x.passSlots(24);
        check.is(STATE, () -> x.fillSlot(27));
        check.is(INDEX, () -> x.fillSlot(28));
    }

    private static void fillSlotPrefers() {
        check.at("13 fillSlot, the order of gates and guards");
        GuardRoster x = roster("131", "352");
        // Gate 1 needs most and is considered first: the lowest rank that fits it is guard 0's.
        check.is(3, () -> x.fillSlot(0));
        check.is("d0: 2 0 1", () -> slot(x, 0));
        // Guard 0 and guard 1 have one duty more than guard 2.
        GuardRoster fewest = roster("1", "111");
        fewest.assign(0, 0, 0);
        fewest.assign(0, 2, 1);
        fewest.assign(0, 4, 0);
        check.is(1, () -> fewest.fillSlot(10));
        check.is(2, () -> fewest.guardAt(0, 10));
        check.is(1, () -> fewest.fillSlot(12));
        check.is(1, () -> fewest.guardAt(0, 12));
        // Duties in passed slots count, leave and rest bar.
        GuardRoster barred = roster("11", "9111");
        barred.assign(0, 0, 1);
        barred.passSlots(2);
        barred.grantLeave(2, 2, 2);
        barred.assign(0, 3, 3);
        check.is(2, () -> barred.fillSlot(2));
        check.is("d1: 0 1", () -> slot(barred, 2));
        GuardRoster part = roster("123", "333");
        part.assign(1, 6, 0);
        check.is(2, () -> part.fillSlot(6));
        check.is("d3: 2 0 1", () -> slot(part, 6));
        GuardRoster manyDuties = roster("11", "91");
        for (int slot = 0; slot < 20; slot += 2) {
            manyDuties.assign(0, slot, 1);
        }
        check.is(2, () -> manyDuties.fillSlot(26));
        check.is("d13: 0 1", () -> slot(manyDuties, 26));
    }

    private static void guardAtAndGateOf() {
        check.at("14 guardAt");
        GuardRoster x = roster("11", "111");
        x.assign(1, 0, 2);
        x.assign(0, 27, 0);
        check.is(2, () -> x.guardAt(1, 0));
        check.is(0, () -> x.guardAt(0, 27));
        check.is(NO_ELEMENT, () -> x.guardAt(0, 0));
        for (int wrong : new int[] {LEAST, -1, 2, MOST}) {
            check.is(INDEX, () -> x.guardAt(wrong, 0));
        }
        for (int wrong : new int[] {LEAST, -1, 28, MOST}) {
            check.is(INDEX, () -> x.guardAt(0, wrong));
        }
        check.at("15 gateOf");
        check.is(1, () -> x.gateOf(2, 0));
        check.is(0, () -> x.gateOf(0, 27));
        check.is(NO_ELEMENT, () -> x.gateOf(0, 0));
        check.is(NO_ELEMENT, () -> x.gateOf(2, 1));
        for (int wrong : new int[] {LEAST, -1, 3, MOST}) {
            check.is(INDEX, () -> x.gateOf(wrong, 0));
        }
        for (int wrong : new int[] {LEAST, -1, 28, MOST}) {
            check.is(INDEX, () -> x.gateOf(0, wrong));
        }
        x.passSlots(28);
        check.is(2, () -> x.guardAt(1, 0));
        check.is(1, () -> x.gateOf(2, 0));
    }

    private static void dutyNumbers() {
        check.at("16 dutiesOf");
        GuardRoster x = roster("11", "11");
        check.is(0, () -> x.dutiesOf(0));
        x.assign(0, 0, 0);
        x.assign(1, 2, 0);
        x.assign(1, 27, 1);
        check.is(2, () -> x.dutiesOf(0));
        check.is(1, () -> x.dutiesOf(1));
        check.is(INDEX, () -> x.dutiesOf(2));
        check.is(INDEX, () -> x.dutiesOf(-1));
        check.is(INDEX, () -> x.dutiesOf(MOST));
        check.is(INDEX, () -> x.dutiesOf(LEAST));
        check.at("17 dutyCount");
        check.is(3, x::dutyCount);
        x.passSlots(28);
        check.is(3, x::dutyCount);
        check.is(2, () -> x.dutiesOf(0));
        check.at("18 openGates");
        check.is(1, () -> x.openGates(0));
        check.is(2, () -> x.openGates(1));
        check.is(1, () -> x.openGates(27));
        check.is(INDEX, () -> x.openGates(28));
        check.is(INDEX, () -> x.openGates(-1));
        check.is(INDEX, () -> x.openGates(MOST));
        check.is(INDEX, () -> x.openGates(LEAST));
        GuardRoster full = roster("11", "11");
        full.fillSlot(3);
        check.is(0, () -> full.openGates(3));
    }

    private static void openPlaces() {
        check.at("19, 20 openPlaces, openPlacesBySlots");
        GuardRoster x = roster("11", "1");
        open(x, 56);
        x.assign(0, 0, 0);
        x.assign(1, 5, 0);
        open(x, 54);
        x.passSlots(1);
        open(x, 53);
        x.passSlots(5);
        open(x, 44);
        x.passSlots(22);
        open(x, 0);
    }

    private static void open(GuardRoster x, int due) {
        check.is(due, x::openPlaces);
        check.is(due, x::openPlacesBySlots);
    }

    private static void mostDuties() {
        check.at("21, 22 mostDuties, mostDutiesBySets");
        GuardRoster none = new GuardRoster();
        most(none, 0, 0);
        GuardRoster noGuards = roster("11", "");
        most(noGuards, 5, 0);
        GuardRoster x = roster("159", "159");
        most(x, 0, 3);
        for (int wrong : new int[] {LEAST, -1, 28, MOST}) {
            check.is(INDEX, () -> x.mostDuties(wrong));
            check.is(INDEX, () -> x.mostDutiesBySets(wrong));
        }
        x.assign(0, 4, 2);
        most(x, 4, 1);
        most(x, 3, 2);
        most(x, 5, 2);
        most(x, 6, 3);
        x.grantLeave(0, 6, 7);
        x.grantLeave(1, 7, 7);
        most(x, 6, 2);
        most(x, 7, 1);
        x.passSlots(28);
        most(x, 6, 2);
        most(x, 27, 3);
        // The first guard found for a gate must move on: a long path.
        GuardRoster path = roster("12345", "55555");
        most(path, 0, 5);
        GuardRoster chain = roster("11111", "11111");
        for (int gate = 0; gate < 5; gate++) {
            most(chain, gate, 5);
        }
        GuardRoster falling = roster("98765", "56789");
        most(falling, 0, 5);
        GuardRoster rising = roster("56789", "98765");
        most(rising, 0, 5);
        GuardRoster few = roster("99991", "1199");
        most(few, 0, 3);
        // Only the last guard fits.
        GuardRoster last = roster("59", "1111111119");
        most(last, 27, 1);
        // Each of the two looks at the slot by itself.
        last.grantLeave(9, 3, 4);
        check.is(0, () -> last.mostDutiesBySets(3));
        check.is(1, () -> last.mostDutiesBySets(5));
        check.is(0, () -> last.mostDuties(4));
        check.is(1, () -> last.mostDuties(2));
        check.is(NO_ELEMENT, few::refusalReason);
        check.is(0, few::dutyCount);
        check.is(8, few::undoCount);
    }

    private static void most(GuardRoster x, int slot, int due) {
        check.is(due, () -> x.mostDuties(slot));
        check.is(due, () -> x.mostDutiesBySets(slot));
    }

    private static void nextDuty() {
        check.at("23 nextDuty");
        GuardRoster x = roster("11", "11");
        check.is(NO_ELEMENT, () -> x.nextDuty(0));
        x.assign(0, 0, 0);
        x.assign(1, 5, 0);
        x.assign(0, 27, 0);
        check.is(0, () -> x.nextDuty(0));
        x.passSlots(1);
        check.is(5, () -> x.nextDuty(0));
        x.passSlots(4);
        check.is(5, () -> x.nextDuty(0));
        x.passSlots(1);
        check.is(27, () -> x.nextDuty(0));
        check.is(NO_ELEMENT, () -> x.nextDuty(1));
        x.passSlots(22);
        check.is(NO_ELEMENT, () -> x.nextDuty(0));
        for (int wrong : new int[] {LEAST, -1, 2, MOST}) {
            check.is(INDEX, () -> x.nextDuty(wrong));
        }
    }

    private static void longestRest() {
        check.at("24 longestRest");
        GuardRoster x = roster("11", "11");
        check.is(28, () -> x.longestRest(0));
        x.assign(0, 0, 0);
        check.is(27, () -> x.longestRest(0));
        x.assign(1, 27, 0);
        check.is(26, () -> x.longestRest(0));
        x.assign(1, 10, 0);
        check.is(16, () -> x.longestRest(0));
        x.passSlots(20);
        check.is(16, () -> x.longestRest(0));
        x.assign(0, 22, 0);
        check.is(11, () -> x.longestRest(0));
        check.is(28, () -> x.longestRest(1));
        GuardRoster early = roster("1", "1");
        early.assign(0, 20, 0);
        check.is(20, () -> early.longestRest(0));
        for (int wrong : new int[] {LEAST, -1, 2, MOST}) {
            check.is(INDEX, () -> x.longestRest(wrong));
        }
    }

    private static void guardByDuties() {
        check.at("25 guardByDuties");
        GuardRoster x = roster("111", "5393");
        int[] order = {1, 3, 0, 2};
        for (int place = 0; place < 4; place++) {
            int at = place;
            check.is(order[place], () -> x.guardByDuties(at));
        }
        x.assign(0, 0, 1);
        x.assign(1, 0, 0);
        x.assign(2, 0, 3);
        x.assign(0, 2, 3);
        int[] later = {2, 1, 0, 3};
        for (int place = 0; place < 4; place++) {
            int at = place;
            check.is(later[place], () -> x.guardByDuties(at));
        }
        for (int wrong : new int[] {LEAST, -1, 4, MOST}) {
            check.is(NO_ELEMENT, () -> x.guardByDuties(wrong));
        }
        GuardRoster none = new GuardRoster();
        check.is(NO_ELEMENT, () -> none.guardByDuties(0));
        GuardRoster all = roster("1", "9999999991");
        check.is(9, () -> all.guardByDuties(0));
        check.is(8, () -> all.guardByDuties(9));
    }

    private static void grantLeave() {
        check.at("26 grantLeave");
        GuardRoster x = roster("11", "11");
        for (int wrong : new int[] {LEAST, -1, 2, MOST}) {
            check.is(INDEX, () -> x.grantLeave(wrong, 0, 1));
        }
        for (int wrong : new int[] {LEAST, -1, 28, MOST}) {
            check.is(ARGUMENT, () -> x.grantLeave(0, wrong, 27));
            check.is(ARGUMENT, () -> x.grantLeave(0, 0, wrong));
        }
        check.is(ARGUMENT, () -> x.grantLeave(0, 5, 4));
        check.is(INDEX, () -> x.grantLeave(2, 5, 4));
        check.is(3, () -> x.grantLeave(0, 4, 6));
        check.is(2, () -> x.grantLeave(0, 3, 7));
        check.is(0, () -> x.grantLeave(0, 3, 7));
        check.is(1, () -> x.grantLeave(0, 27, 27));
        check.is(1, () -> x.grantLeave(0, 0, 0));
        check.is("x..xxxxx...................x", () -> guard(x, 0));
        check.is(0, () -> x.leaveSlots(1));
        check.at("26 grantLeave, refused");
        x.assign(1, 10, 1);
        x.assign(0, 12, 1);
        check.is(REFUSED, () -> x.grantLeave(1, 9, 13));
        check.is(GuardRoster.BUSY, x::refusalReason);
        check.is(1, x::refusalDetail);
        check.is(REFUSED, () -> x.grantLeave(1, 11, 12));
        check.is(0, x::refusalDetail);
        check.is(REFUSED, () -> x.grantLeave(1, 10, 10));
        check.is(1, x::refusalDetail);
        check.is(0, () -> x.leaveSlots(1));
        check.is(1, () -> x.grantLeave(1, 11, 11));
        check.is(10, () -> x.grantLeave(1, 0, 9));
        check.at("26 grantLeave, passed");
        x.passSlots(15);
        check.is(STATE, () -> x.grantLeave(1, 14, 20));
        check.is(STATE, () -> x.grantLeave(1, 10, 12));
        check.is(ARGUMENT, () -> x.grantLeave(1, 14, 28));
        check.is(13, () -> x.grantLeave(1, 15, 27));
        GuardRoster all = roster("1", "1");
        check.is(28, () -> all.grantLeave(0, 0, 27));
    }

    private static void endLeave() {
        check.at("27 endLeave");
        GuardRoster x = roster("1", "11");
        x.grantLeave(0, 0, 5);
        x.grantLeave(0, 27, 27);
        for (int wrong : new int[] {LEAST, -1, 2, MOST}) {
            check.is(INDEX, () -> x.endLeave(wrong, 0));
        }
        for (int wrong : new int[] {LEAST, -1, 28, MOST}) {
            check.is(INDEX, () -> x.endLeave(0, wrong));
        }
        check.is(NO_ELEMENT, () -> x.endLeave(1, 0));
        check.is(NO_ELEMENT, () -> x.endLeave(0, 6));
        check.is(6, () -> x.endLeave(0, 0));
        check.is(NO_ELEMENT, () -> x.endLeave(0, 0));
        check.is(5, () -> x.endLeave(0, 27));
        x.passSlots(28);
        check.is(4, () -> x.endLeave(0, 3));
        check.is(".xx.xx......................", () -> guard(x, 0));
        check.is(8, x::undoCount);
    }

    private static void leaveQueries() {
        check.at("28 isOnLeave");
        GuardRoster x = roster("1", "11");
        x.grantLeave(1, 2, 4);
        check.is(false, () -> x.isOnLeave(1, 1));
        check.is(true, () -> x.isOnLeave(1, 2));
        check.is(true, () -> x.isOnLeave(1, 4));
        check.is(false, () -> x.isOnLeave(1, 5));
        check.is(false, () -> x.isOnLeave(0, 3));
        for (int wrong : new int[] {LEAST, -1, 2, MOST}) {
            check.is(INDEX, () -> x.isOnLeave(wrong, 0));
        }
        for (int wrong : new int[] {LEAST, -1, 28, 34, MOST}) {
            check.is(INDEX, () -> x.isOnLeave(1, wrong));
        }
        check.at("29 leaveSlots");
        check.is(3, () -> x.leaveSlots(1));
        check.is(0, () -> x.leaveSlots(0));
        x.passSlots(28);
        check.is(3, () -> x.leaveSlots(1));
        check.is(true, () -> x.isOnLeave(1, 4));
        for (int wrong : new int[] {LEAST, -1, 2, MOST}) {
            check.is(INDEX, () -> x.leaveSlots(wrong));
        }
    }

    private static void addRations() {
        check.at("30 addRations");
        GuardRoster x = new GuardRoster();
        for (int wrong : new int[] {LEAST, -1, 0, 51, MOST}) {
            check.is(ARGUMENT, () -> x.addRations(wrong));
        }
        check.is(70, () -> x.addRations(50));
        check.is(STATE, () -> x.addRations(30));
        check.is(71, () -> x.addRations(1));
        check.is(99, () -> x.addRations(28));
        check.is(STATE, () -> x.addRations(1));
        check.is(ARGUMENT, () -> x.addRations(0));
        check.is(ARGUMENT, () -> x.addRations(51));
        check.at("32 rations");
        check.is(99, x::rations);
        x.undo();
        check.is(71, x::rations);
    }

    private static void passSlots() {
        check.at("31 passSlots");
        GuardRoster x = roster("11", "11");
        for (int wrong : new int[] {LEAST, -1, 0, 29, MOST}) {
            check.is(ARGUMENT, () -> x.passSlots(wrong));
        }
        x.assign(0, 0, 0);
        x.assign(1, 0, 1);
        x.assign(0, 3, 1);
        check.is(0, () -> x.passSlots(3));
        check.is(18, x::rations);
        check.at("33 currentSlot");
        check.is(3, x::currentSlot);
        check.at("31 passSlots");
        check.is(STATE, () -> x.passSlots(26));
        check.is(STATE, () -> x.passSlots(28));
        check.is(ARGUMENT, () -> x.passSlots(29));
        check.is(3, x::currentSlot);
        check.is(0, () -> x.passSlots(25));
        check.is(17, x::rations);
        check.is(28, x::currentSlot);
        check.is(STATE, () -> x.passSlots(1));
        check.is(ARGUMENT, () -> x.passSlots(0));
        check.at("31 passSlots, the order of the gates");
        GuardRoster hungry = roster("11111", "1111111111");
        for (int slot = 0; slot < 5; slot++) {
            for (int gate = 0; gate < 5; gate++) {
                hungry.assign(gate, slot, slot % 2 == 0 ? 4 - gate : 9 - gate);
            }
        }
        hungry.remove(3, 0);
        hungry.remove(0, 1);
        // 23 duties and 20 rations: the last gates' guards of slot 4 faint, gate 4's, 3's and 2's.
        check.is(3, () -> hungry.passSlots(28));
        check.is(1, () -> hungry.faints(0));
        check.is(1, () -> hungry.faints(1));
        check.is(1, () -> hungry.faints(2));
        check.is(0, () -> hungry.faints(3));
        check.is(0, () -> hungry.faints(4));
        check.is(0, hungry::rations);
    }

    private static void missingRations() {
        check.at("34 missingRations");
        GuardRoster x = roster("11111", "1111111111");
        for (int slot = 0; slot < 4; slot++) {
            x.fillSlot(slot);
        }
        check.is(0, x::missingRations);
        x.fillSlot(27);
        check.is(5, x::missingRations);
        x.addRations(2);
        check.is(3, x::missingRations);
        x.passSlots(2);
        check.is(12, x::rations);
        check.is(3, x::missingRations);
        x.passSlots(25);
        check.is(2, x::rations);
        check.is(3, x::missingRations);
        check.is(3, () -> x.passSlots(1));
        check.is(0, x::missingRations);
    }

    private static void refusals() {
        check.at("35, 36 refusalReason, refusalDetail");
        GuardRoster x = roster("51", "15");
        check.is(NO_ELEMENT, x::refusalReason);
        check.is(NO_ELEMENT, x::refusalDetail);
        check.is(REFUSED, () -> x.assign(0, 0, 0));
        check.is(2, x::refusalReason);
        check.is(1, x::refusalDetail);
        x.assign(0, 0, 1);
        check.is(2, x::refusalReason);
        check.is(REFUSED, () -> x.assign(1, 0, 1));
        check.is(4, x::refusalReason);
        check.is(0, x::refusalDetail);
        check.is(INDEX, () -> x.assign(9, 0, 1));
        check.is(false, () -> x.canAssign(0, 1, 0));
        check.is(4, x::refusalReason);
    }

    private static void statistics() {
        check.at("37 meanDuties");
        GuardRoster x = new GuardRoster();
        check.is(ARITHMETIC, x::meanDuties);
        check.at("38 coveredFraction");
        check.is(ARITHMETIC, x::coveredFraction);
        x.addGuard(1);
        check.is(ARITHMETIC, x::coveredFraction);
        check.is(0.0, x::meanDuties);
        x.addGate(1);
        check.is(0.0f, x::coveredFraction);
        x.addGuard(1);
        x.addGuard(1);
        x.fillSlot(0);
        check.is(1.0 / 3.0, x::meanDuties);
        check.is(1.0f / 28.0f, x::coveredFraction);
        x.addGate(9);
        x.addGate(9);
        x.passSlots(1);
        x.fillSlot(1);
        check.is(2.0 / 3.0, x::meanDuties);
        check.is(2.0f / 84.0f, x::coveredFraction);
        GuardRoster noGuards = roster("1", "");
        check.is(ARITHMETIC, noGuards::meanDuties);
        check.is(0.0f, noGuards::coveredFraction);
    }

    private static void writeSlot() {
        check.at("39 writeSlot");
        GuardRoster x = new GuardRoster();
        check.is(3, () -> x.writeSlot(0));
        check.is("n13:", () -> slot(x, 27));
        x.addGate(1);
        x.addGate(1);
        x.addGate(1);
        for (int i = 0; i < 10; i++) {
            x.addGuard(1);
        }
        x.assign(0, 13, 3);
        x.assign(2, 13, 0);
        check.is(9, () -> x.writeSlot(13));
        check.is("n6: 3 - 0", () -> slot(x, 13));
        x.assign(1, 20, 9);
        check.is("d10: - 9 -", () -> slot(x, 20));
        check.is("d9: - - -", () -> slot(x, 18));
        for (int wrong : new int[] {LEAST, -1, 28, MOST}) {
            check.is(INDEX, () -> x.writeSlot(wrong));
        }
        check.is("d9: - - -", () -> output(x, 9));
        check.is(INDEX, () -> x.outputCharacter(9));
        GuardRoster full = roster("11111", "11111");
        full.fillSlot(26);
        check.is(14, () -> full.writeSlot(26));
        check.is("d13: 0 1 2 3 4", () -> output(full, 14));
    }

    private static void writeGuard() {
        check.at("40 writeGuard");
        GuardRoster x = roster("11111", "11");
        x.assign(0, 0, 0);
        x.assign(4, 27, 0);
        x.assign(2, 9, 0);
        x.grantLeave(0, 3, 5);
        x.grantLeave(1, 27, 27);
        check.is(28, () -> x.writeGuard(0));
        check.is("0..xxx...2.................4", () -> output(x, 28));
        check.is("...........................x", () -> guard(x, 1));
        for (int wrong : new int[] {LEAST, -1, 2, MOST}) {
            check.is(INDEX, () -> x.writeGuard(wrong));
        }
        check.is("...........................x", () -> output(x, 28));
    }

    private static void outputCharacter() {
        check.at("41 outputCharacter");
        GuardRoster x = roster("1", "1");
        check.is(INDEX, () -> x.outputCharacter(0));
        x.writeGuard(0);
        check.is('.', () -> x.outputCharacter(27));
        check.is(INDEX, () -> x.outputCharacter(28));
        x.writeSlot(3);
        check.is('n', () -> x.outputCharacter(0));
        check.is('-', () -> x.outputCharacter(4));
        check.is(INDEX, () -> x.outputCharacter(5));
        check.is(INDEX, () -> x.outputCharacter(27));
        for (int wrong : new int[] {LEAST, -1, MOST}) {
            check.is(INDEX, () -> x.outputCharacter(wrong));
        }
    }

    private static void isConsistent() {
        check.at("42 isConsistent");
        GuardRoster x = roster("13579", "1234567");
        for (int slot = 0; slot < 28; slot++) {
            x.fillSlot(slot);
            check.is(true, x::isConsistent);
        }
        x.passSlots(28);
        check.is(true, x::isConsistent);
        check.is(NO_ELEMENT, x::refusalReason);
    }

    private static void feed() {
        check.at("43 feed");
        GuardRoster x = new GuardRoster();
        check.is(1, () -> x.feed('\0'));
        check.is(2, () -> x.feed('\uffff'));
        for (int i = 3; i <= 60; i++) {
            check.is(i, () -> x.feed('a'));
        }
        check.is(STATE, () -> x.feed('a'));
        check.is(STATE, () -> x.feed(';'));
        check.is(ARGUMENT, x::execute);
        check.is(0, x::errorPosition);
        check.is(1, () -> x.feed('g'));
    }

    private static void executeEachCommand() {
        check.at("44 execute");
        GuardRoster x = new GuardRoster();
        check.is(1, () -> run(x, "gate 3"));
        check.is(3, () -> x.neededRank(0));
        check.is(2, () -> run(x, "guard 7;guard 9"));
        check.is(7, () -> x.rank(0));
        check.is(9, () -> x.rank(1));
        check.is(1, () -> run(x, "duty 0@12=1"));
        check.is(1, () -> x.guardAt(0, 12));
        check.is(1, () -> run(x, "duty 0@05=0"));
        check.is(0, () -> x.guardAt(0, 5));
        check.is(1, () -> run(x, "free 0@5"));
        check.is(NO_ELEMENT, () -> x.guardAt(0, 5));
        check.is(1, () -> run(x, "leave 1 3-07"));
        check.is("...xxxxx....0...............", () -> guard(x, 1));
        check.is(1, () -> run(x, "fill 27"));
        check.is(0, () -> x.guardAt(0, 27));
        check.is(1, () -> run(x, "food 50"));
        check.is(70, x::rations);
        check.is(1, () -> run(x, "pass 14"));
        check.is(14, x::currentSlot);
        check.is(69, x::rations);
        check.is(8, () -> run(x, "food 1;food 1;food 1;food 1;food 1;food 1;food 1;food 1"));
        check.is(77, x::rations);
        check.is(ARGUMENT, x::execute);
        check.is(0, x::errorPosition);
        check.is(77, x::rations);
    }

    private static void executeAllOrNone() {
        check.at("44 execute, all or none");
        GuardRoster x = roster("15", "15");
        int changes = x.undoCount();
        check.is(REFUSED, () -> run(x, "gate 9;guard 3;food 5;fill 4;pass 3;duty 1@4=1;duty 0@7=0"));
        check.is(5, x::failedCommand);
        check.is(GuardRoster.PLACE_TAKEN, x::refusalReason);
        check.is(1, x::refusalDetail);
        check.is(2, x::gateCount);
        check.is(2, x::guardCount);
        check.is(20, x::rations);
        check.is(0, x::dutyCount);
        check.is(0, x::currentSlot);
        check.is(changes, x::undoCount);
        check.is(7, () -> run(x, "gate 9;guard 3;food 5;fill 4;pass 3;free 1@4;duty 1@4=1"));
        check.is(changes + 1, x::undoCount);
        check.is(3, x::currentSlot);
        check.is(25, x::rations);
        check.is(5, x::failedCommand);
        check.is(changes, x::undo);
        check.is(2, x::gateCount);
        check.is(0, x::dutyCount);
        check.is(0, x::currentSlot);
        check.at("44 execute, none: nothing that can be undone is lost");
        GuardRoster full = new GuardRoster();
        for (int i = 0; i < 9; i++) {
            full.addRations(1);
        }
        check.is(REFUSED, () -> run(full, "food 9;food 51"));
        check.is(8, full::undoCount);
        check.is(29, full::rations);
        for (int left = 7; left >= 0; left--) {
            check.is(left, full::undo);
        }
        check.is(21, full::rations);
        check.is(STATE, full::undo);
    }

    private static void executeExceptions() {
        check.at("44 execute, commands that throw");
        String[] failing = {"gate 0", "guard 0", "duty 2@5=0", "duty 0@28=0", "duty 0@5=2", "duty 0@1=0", "free 0@5",
            "free 2@5", "free 0@28", "free 0@1", "leave 2 3-4", "leave 0 4-3", "leave 0 4-28", "leave 0 1-4",
            "fill 28", "fill 1", "food 0", "food 51", "food 00", "pass 0", "pass 29", "pass 27", "pass 99"};
        for (String command : failing) {
            GuardRoster one = roster("11", "11");
            one.passSlots(2);
            check.is(REFUSED, () -> run(one, "food 1;" + command));
            check.is(1, one::failedCommand);
            check.is(NO_ELEMENT, one::refusalReason);
            check.is(REFUSED, () -> run(one, command + ";food 1"));
            check.is(0, one::failedCommand);
            check.is(20, one::rations);
            check.is(NO_ELEMENT, one::errorPosition);
        }
        GuardRoster x = roster("11", "11");
        x.assign(1, 9, 1);
        check.is(REFUSED, () -> run(x, "leave 1 8-9"));
        check.is(GuardRoster.BUSY, x::refusalReason);
        check.is(1, x::refusalDetail);
        check.is(REFUSED, () -> run(x, "gate 1;gate 1;gate 1;gate 1"));
        check.is(3, x::failedCommand);
        check.is(REFUSED, () -> run(x, "food 50;food 30"));
        check.is(1, x::failedCommand);
        check.is(20, x::rations);
    }

    private static void errorPosition() {
        check.at("45 errorPosition");
        wrongAt("", 0);
        wrongAt(";", 0);
        wrongAt(" gate 1", 0);
        wrongAt("Gate 1", 0);
        wrongAt("x", 0);
        wrongAt("g", 1);
        wrongAt("gx", 1);
        wrongAt("gat", 3);
        wrongAt("gatE 1", 3);
        wrongAt("gate", 4);
        wrongAt("gate1", 4);
        wrongAt("gate ", 5);
        wrongAt("gate  1", 5);
        wrongAt("gate x", 5);
        wrongAt("gate 12", 6);
        wrongAt("gate 1 ", 6);
        wrongAt("gate 1;", 7);
        wrongAt("gate 1;;gate 1", 7);
        wrongAt("gate 1;gate 1;", 14);
        wrongAt("gate 1; gate 1", 7);
        wrongAt("guart 1", 4);
        wrongAt("guard 10", 7);
        wrongAt("gu", 2);
        wrongAt("duty 10@1=1", 6);
        wrongAt("duty 1@=1", 7);
        wrongAt("duty 1@1", 8);
        wrongAt("duty 1@123=1", 9);
        wrongAt("duty 1@12", 9);
        wrongAt("duty 1@12=", 10);
        wrongAt("duty 1@12=11", 11);
        wrongAt("duty 1@1@1", 8);
        wrongAt("f", 1);
        wrongAt("fa", 1);
        wrongAt("fr", 2);
        wrongAt("fi", 2);
        wrongAt("fo", 2);
        wrongAt("frod 1", 2);
        wrongAt("fiod 1", 2);
        wrongAt("foll 1", 2);
        wrongAt("free 1", 6);
        wrongAt("free 1@", 7);
        wrongAt("free 1@123", 9);
        wrongAt("free 12@1", 6);
        wrongAt("leave 0-1", 7);
        wrongAt("leave 0 1", 9);
        wrongAt("leave 0 11", 10);
        wrongAt("leave 0 111-1", 10);
        wrongAt("leave 0 1-", 10);
        wrongAt("leave 0 -1", 8);
        wrongAt("leave 0 1-111", 12);
        wrongAt("fill", 4);
        wrongAt("fill ", 5);
        wrongAt("fill 123", 7);
        wrongAt("fill -1", 5);
        wrongAt("food 1,", 6);
        wrongAt("pass 1:", 6);
        wrongAt("pass /", 5);
        wrongAt("pass :", 5);
        wrongAt("pass \u0661", 5);
        wrongAt("pass 1\u0661", 6);
        wrongAt("food 1;food 1;food 1;food 1;food 1;food 1;food 1;food 1;food", 60);
        wrongAt("food 1;food 1;food 1;food 1;food 1;food 1;food 1;food 1;fx", 57);
        wrongAt("gate 0;gate x", 12);
    }

    private static void wrongAt(String malformed, int position) {
        GuardRoster x = roster("11", "11");
        check.is(NO_ELEMENT, x::errorPosition);
        check.is(ARGUMENT, () -> run(x, malformed));
        check.is(position, x::errorPosition);
        check.is(1, () -> x.feed('g'));
        check.is(ARGUMENT, x::execute);
        check.is(1, x::errorPosition);
        check.is(ARGUMENT, () -> run(x, malformed));
        check.is(position, x::errorPosition);
        check.is(NO_ELEMENT, x::failedCommand);
        check.is(20, x::rations);
        check.is(1, () -> run(x, "food 1"));
        check.is(position, x::errorPosition);
    }

    private static void failedCommand() {
        check.at("46 failedCommand");
        GuardRoster x = new GuardRoster();
        check.is(NO_ELEMENT, x::failedCommand);
        check.is(ARGUMENT, () -> run(x, "gate"));
        check.is(NO_ELEMENT, x::failedCommand);
        check.is(REFUSED, () -> run(x, "food 1;food 1;food 1;food 1;food 1;food 1;food 1;food 0"));
        check.is(7, x::failedCommand);
        check.is(1, () -> run(x, "food 1"));
        check.is(7, x::failedCommand);
        check.is(REFUSED, () -> run(x, "fill 28"));
        check.is(0, x::failedCommand);
        check.is(1, () -> x.feed('g'));
    }

    private static void undo() {
        check.at("47, 48 undo, undoCount");
        GuardRoster x = new GuardRoster();
        check.is(STATE, x::undo);
        check.is(0, x::undoCount);
        for (int i = 1; i <= 12; i++) {
            x.addRations(1);
            check.is(Math.min(i, 8), x::undoCount);
        }
        for (int left = 7; left >= 0; left--) {
            check.is(left, x::undo);
            check.is(left, x::undoCount);
            check.is(24 + left, x::rations);
        }
        check.is(STATE, x::undo);
        check.is(24, x::rations);
        x.addRations(2);
        x.addRations(3);
        check.is(1, x::undo);
        x.addRations(4);
        check.is(2, x::undoCount);
        check.is(1, x::undo);
        check.is(26, x::rations);
        check.is(0, x::undo);
        check.is(24, x::rations);
        check.is(ARGUMENT, () -> x.addRations(0));
        check.is(ARGUMENT, x::execute);
        check.is(0, x::undoCount);
    }

    private static void undoEachChange() {
        check.at("47 undo of each change");
        Supplier<GuardRoster> made = made("11", "11", y -> y.assign(0, 4, 0), y -> y.assign(1, 8, 1),
                y -> y.grantLeave(0, 10, 11));
        undone(made, y -> y.addGate(1));
        undone(made, y -> y.addGuard(1));
        undone(made, y -> y.assign(1, 4, 1));
        undone(made, y -> y.remove(0, 4));
        undone(made, y -> y.exchange(0, 4, 1, 8));
        undone(made, y -> y.grantLeave(0, 5, 20));
        undone(made, y -> y.endLeave(0, 11));
        undone(made, y -> y.fillSlot(12));
        undone(made, y -> y.fillSlot(8));
        undone(made, y -> y.addRations(9));
        undone(made, y -> y.passSlots(9));
        undone(made, y -> run(y, "gate 1;pass 10"));
        check.at("47 undo of a change that alters nothing");
        Supplier<GuardRoster> still = made("1", "1", y -> y.grantLeave(0, 0, 27));
        undone(still, y -> y.grantLeave(0, 0, 27));
        undone(still, y -> y.fillSlot(0));
    }

    private static void undone(Supplier<GuardRoster> made, Call change) {
        GuardRoster x = made.get();
        String before = picture(x);
        int changes = x.undoCount();
        check.is(true, () -> {
            change.on(x);
            return true;
        });
        check.is(Math.min(8, changes + 1), x::undoCount);
        check.is(Math.min(8, changes + 1) - 1, x::undo);
        check.is(before, () -> picture(x));
    }

    private static void undoLeavesAside() {
        check.at("47 undo leaves aside buffer, output, error position, failed command and refusal");
        GuardRoster x = roster("15", "11");
        x.assign(0, 0, 0);
        check.is(REFUSED, () -> x.assign(0, 0, 1));
        check.is(REFUSED, () -> run(x, "food 1;food 0"));
        check.is(ARGUMENT, () -> run(x, "food 1;fx"));
        x.writeSlot(0);
        feedAll(x, "gate ");
        x.save();
        x.undo();
        leftAside(x);
        x.restore();
        leftAside(x);
        check.is(6, () -> x.feed('3'));
        check.is(1, x::execute);
        check.is(3, () -> x.neededRank(2));
    }

    private static void leftAside(GuardRoster x) {
        check.is("d0: 0 -", () -> output(x, 7));
        check.is(GuardRoster.PLACE_TAKEN, x::refusalReason);
        check.is(0, x::refusalDetail);
        check.is(1, x::failedCommand);
        check.is(8, x::errorPosition);
    }

    private static void saveAndRestore() {
        check.at("49, 50 save, restore");
        GuardRoster x = new GuardRoster();
        check.is(STATE, x::restore);
        check.is(0, x::save);
        x.addGate(1);
        x.addGuard(1);
        x.addGuard(2);
        check.is(3, x::undoCount);
        check.is(0, x::restore);
        check.is(0, x::undoCount);
        check.is(STATE, x::undo);
        check.is(0, x::gateCount);
        check.is(0, x::guardCount);
        x.addGate(1);
        x.addGuard(1);
        x.addGuard(2);
        x.assign(0, 3, 1);
        x.grantLeave(0, 2, 9);
        x.addRations(7);
        x.passSlots(4);
        check.is(2, x::save);
        check.is(7, x::undoCount);
        String saved = picture(x);
        x.undo();
        x.undo();
        x.remove(0, 3);
        x.addGuard(9);
        x.endLeave(0, 5);
        x.passSlots(20);
        check.is(2, x::restore);
        check.is(saved, () -> picture(x));
        check.is(0, x::undoCount);
        x.addGuard(5);
        x.passSlots(24);
        check.is(2, x::restore);
        check.is(saved, () -> picture(x));
        x.addGuard(5);
        check.is(3, x::save);
        x.undo();
        check.is(2, x::guardCount);
        check.is(3, x::restore);
        check.at("50 restore of faints");
        GuardRoster faint = roster("11111", "11111");
        for (int slot = 0; slot < 10; slot += 2) {
            faint.fillSlot(slot);
        }
        check.is(5, () -> faint.passSlots(28));
        faint.save();
        faint.undo();
        check.is(0, () -> faint.faints(4));
        faint.restore();
        check.is(1, () -> faint.faints(4));
    }
}
