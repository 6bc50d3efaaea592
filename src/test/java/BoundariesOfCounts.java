import java.util.function.Supplier;

/** Promises 17 to 25: what is counted over duties. */
final class BoundariesOfCounts extends Boundaries {
    static void all() {
        dutyCount();
        openGates();
        openPlaces();
        mostDutiesThrows();
        mostDutiesEmptyAndFull();
        mostDutiesMoves();
        mostDutiesOfOneGateLess();
        nextDuty();
        longestRest();
        guardByDutiesThrows();
        guardByDutiesOrder();
    }

    private static void dutyCount() {
        about(17, "int dutyCount(): Returns the number of all duties");
        check.is(0, () -> new GuardRoster().dutyCount());
        check.is(0, () -> roster("11111", "11111").dutyCount());
        GuardRoster full = BoundariesOfRations.full();
        check.is(140, full::dutyCount);
        full.passSlots(28);
        check.is(140, full::dutyCount);
        GuardRoster ends = made("1", "1", y -> y.assign(0, 0, 0), y -> y.assign(0, 27, 0)).get();
        check.is(2, ends::dutyCount);
        ends.passSlots(1);
        check.is(2, ends::dutyCount);
    }

    private static void openGates() {
        about(18, "Throws IndexOutOfBoundsException if there is no such slot");
        for (int wrong : beside(0, 27)) {
            changesNothing(INDEX, made("11", "11"), y -> y.openGates(wrong));
            changesNothing(INDEX, made("", ""), y -> y.openGates(wrong));
        }
        changesNothing(INDEX, made("1", "1", y -> y.passSlots(28)), y -> y.openGates(28));
        about(18, "Returns the number of gates without a duty in a slot.");
        GuardRoster full = BoundariesOfRations.full();
        check.is(0, () -> full.openGates(0));
        check.is(0, () -> full.openGates(27));
        full.remove(4, 27);
        check.is(1, () -> full.openGates(27));
        full.passSlots(28);
        check.is(1, () -> full.openGates(27));
        check.is(5, () -> roster("11111", "1").openGates(27));
        check.is(0, () -> roster("", "1").openGates(0));
    }

    private static void openPlaces() {
        about(19, "Returns the number of open places: pairs of a gate and a slot from the current one on without a duty");
        Supplier<GuardRoster> ends = made("11", "1", y -> y.assign(1, 0, 0), y -> y.assign(0, 27, 0));
        int[][] openByNow = {{0, 54}, {1, 53}, {2, 51}, {26, 3}, {27, 1}, {28, 0}};
        for (int[] open : openByNow) {
            check.is(open[1], () -> at(ends, open[0]).openPlaces());
        }
        check.is(0, () -> new GuardRoster().openPlaces());
        check.is(140, () -> roster("11111", "").openPlaces());
        check.is(0, () -> BoundariesOfRations.full().openPlaces());
        check.is(5, () -> at(made("11111", "1"), 27).openPlaces());
        about(20, "Returns the same as openPlaces, but is computed slot by slot, as the sum of openGates.");
        for (int[] open : openByNow) {
            check.is(open[1], () -> at(ends, open[0]).openPlacesBySlots());
        }
        check.is(0, () -> new GuardRoster().openPlacesBySlots());
        check.is(140, () -> roster("11111", "").openPlacesBySlots());
        check.is(0, () -> BoundariesOfRations.full().openPlacesBySlots());
        check.is(5, () -> at(made("11111", "1"), 27).openPlacesBySlots());
    }

    private static GuardRoster at(Supplier<GuardRoster> made, int now) {
        GuardRoster x = made.get();
        if (now > 0) {
            x.passSlots(now);
        }
        return x;
    }

    private static void mostDutiesThrows() {
        about(21, "Throws IndexOutOfBoundsException if there is no such slot");
        for (int wrong : beside(0, 27)) {
            changesNothing(INDEX, made("15", "15"), y -> y.mostDuties(wrong));
            changesNothing(INDEX, made("", ""), y -> y.mostDuties(wrong));
        }
        about(22, "Throws IndexOutOfBoundsException if there is no such slot");
        for (int wrong : beside(0, 27)) {
            changesNothing(INDEX, made("15", "15"), y -> y.mostDutiesBySets(wrong));
            changesNothing(INDEX, made("", ""), y -> y.mostDutiesBySets(wrong));
        }
    }

    /** Each method is asked on a roster of its own, so that none leans on what the other one left behind. */
    private static void most(int due, Supplier<GuardRoster> made, int slot) {
        check.is(due, () -> made.get().mostDuties(slot));
        check.is(due, () -> made.get().mostDutiesBySets(slot));
    }

    private static void mostDutiesEmptyAndFull() {
        about(21, "Returns the greatest number of duties that could be added in a slot so that none is refused");
        for (int slot : new int[] {0, 13, 27}) {
            most(0, made("", ""), slot);
            most(0, made("", "1111111111"), slot);
            most(0, made("11111", ""), slot);
            most(0, BoundariesOfRations::full, slot);
            most(1, made("1", "1"), slot);
            most(1, made("1", "1111111111"), slot);
            most(1, made("11111", "1"), slot);
            most(5, made("11111", "11111"), slot);
            most(5, made("99999", "1111199999"), slot);
            most(4, made("99999", "1111189999"), slot);
            most(0, made("99999", "8888888888"), slot);
        }
        // Duties of the next slots and of the last one bar no more than they say.
        Supplier<GuardRoster> first = made("11", "11", y -> y.assign(0, 0, 0));
        most(1, first, 0);
        most(1, first, 1);
        most(2, first, 2);
        most(2, first, 27);
        Supplier<GuardRoster> last = made("11", "11", y -> y.assign(1, 27, 1));
        most(1, last, 27);
        most(1, last, 26);
        most(2, last, 25);
        most(2, last, 0);
        Supplier<GuardRoster> away = made("11", "11", y -> y.grantLeave(0, 0, 0), y -> y.grantLeave(1, 0, 1));
        most(0, away, 0);
        most(1, away, 1);
        most(2, away, 2);
    }

    private static void mostDutiesMoves() {
        about(22, "Returns the same as mostDuties, but is computed by a table over the sets of gates.");
        // Each gate would first take the guard that only a later gate can do without.
        most(5, made("12345", "54321"), 0);
        most(5, made("12345", "12345"), 0);
        most(5, made("54321", "54321"), 0);
        most(5, made("54321", "12345"), 0);
        most(5, made("13579", "9753119999"), 27);
        most(4, made("12345", "44444"), 0);
        most(3, made("12345", "33333"), 0);
        most(2, made("12555", "55"), 0);
        most(2, made("55512", "12"), 0);
        most(1, made("1", "9999999999"), 27);
        most(1, made("19", "9"), 0);
        most(1, made("91", "9"), 0);
        most(2, made("19", "91"), 0);
        most(2, made("19", "99"), 0);
    }

    private static void mostDutiesOfOneGateLess() {
        String[] oneTooMuch = {"91111", "19111", "11911", "11191", "11119"};
        for (int gate = 0; gate < 5; gate++) {
            int taken = gate;
            most(4, made(oneTooMuch[gate], "88888"), 0);
            most(5, made(oneTooMuch[gate], "88889"), 0);
            most(4, made("11111", "11111", y -> y.assign(taken, 14, taken)), 14);
            most(4, made("11111", "11111", y -> y.assign(taken, 14, taken)), 13);
            most(5, made("11111", "11111", y -> y.assign(taken, 14, taken)), 12);
        }
    }

    private static void nextDuty() {
        about(23, "Throws IndexOutOfBoundsException if there is no such guard");
        for (int wrong : beside(0, 1)) {
            changesNothing(INDEX, made("11111", "11", y -> y.fillSlot(5)), y -> y.nextDuty(wrong));
        }
        for (int wrong : beside(0, 9)) {
            changesNothing(INDEX, made("1", "1111111111"), y -> y.nextDuty(wrong));
        }
        about(23, "Throws NoSuchElementException if there is none");
        changesNothing(NO_ELEMENT, made("1", "1"), y -> y.nextDuty(0));
        Supplier<GuardRoster> ends = made("12", "52", y -> y.assign(1, 0, 0), y -> y.assign(0, 27, 0));
        changesNothing(NO_ELEMENT, ends, y -> y.nextDuty(1));
        changesNothing(NO_ELEMENT, () -> at(ends, 28), y -> y.nextDuty(0));
        about(23, "Returns the next slot with a duty of a guard, the current slot included.");
        check.is(0, () -> at(ends, 0).nextDuty(0));
        check.is(27, () -> at(ends, 1).nextDuty(0));
        check.is(27, () -> at(ends, 27).nextDuty(0));
    }

    private static void longestRest() {
        about(24, "Throws IndexOutOfBoundsException if there is no such guard");
        for (int wrong : beside(0, 1)) {
            changesNothing(INDEX, made("11111", "11", y -> y.fillSlot(5)), y -> y.longestRest(wrong));
        }
        for (int wrong : beside(0, 9)) {
            changesNothing(INDEX, made("1", "1111111111"), y -> y.longestRest(wrong));
        }
        changesNothing(INDEX, made("1", ""), y -> y.longestRest(0));
        about(24, "Returns the greatest number of consecutive slots, of all 28, in which a guard has no duty.");
        check.is(28, () -> withDuties().longestRest(0));
        check.is(27, () -> withDuties(0).longestRest(0));
        check.is(27, () -> withDuties(27).longestRest(0));
        check.is(26, () -> withDuties(0, 27).longestRest(0));
        check.is(14, () -> withDuties(13).longestRest(0));
        check.is(14, () -> withDuties(14).longestRest(0));
        check.is(13, () -> withDuties(0, 14).longestRest(0));
        check.is(1, () -> BoundariesOfRations.full().longestRest(0));
        check.is(1, () -> BoundariesOfRations.full().longestRest(9));
        GuardRoster passed = BoundariesOfRations.full();
        passed.remove(1, 20);
        passed.passSlots(28);
        check.is(3, () -> passed.longestRest(1));
        GuardRoster away = roster("1", "1");
        away.grantLeave(0, 0, 27);
        check.is(28, () -> away.longestRest(0));
    }

    private static GuardRoster withDuties(int... slots) {
        GuardRoster x = roster("1", "1");
        for (int slot : slots) {
            x.assign(0, slot, 0);
        }
        return x;
    }

    private static void guardByDutiesThrows() {
        about(25, "Throws NoSuchElementException if there is no such place");
        for (int wrong : beside(0, 2)) {
            changesNothing(NO_ELEMENT, made("11111", "123"), y -> y.guardByDuties(wrong));
        }
        for (int wrong : beside(0, 9)) {
            changesNothing(NO_ELEMENT, made("1", "1234567891"), y -> y.guardByDuties(wrong));
        }
        changesNothing(NO_ELEMENT, made("1", ""), y -> y.guardByDuties(0));
    }

    private static void guardByDutiesOrder() {
        about(25, "Returns a guard by the number of duties: the fewest first; of several, the lowest rank first,");
        order("0", roster("1", "5"));
        order("9876543201", roster("", "9987654321"));
        order("0123456789", roster("", "1111111111"));
        order("0123456789", roster("", "1123456789"));
        order("8901234567", roster("", "3333333311"));
        // One duty more outweighs the highest rank.
        order("10", made("1", "19", y -> y.assign(0, 0, 0)).get());
        order("10", made("1", "99", y -> y.assign(0, 27, 0)).get());
        order("120", made("1", "191", y -> y.assign(0, 0, 0), y -> y.assign(0, 2, 0), y -> y.assign(0, 4, 2)).get());
        GuardRoster most = roster("11", "91");
        for (int slot = 0; slot < 28; slot += 2) {
            most.assign(0, slot, 1);
        }
        for (int slot = 0; slot < 26; slot += 2) {
            most.assign(1, slot, 0);
        }
        order("01", most);
        most.assign(1, 26, 0);
        order("10", most);
        most.passSlots(28);
        order("10", most);
    }

    private static void order(String due, GuardRoster x) {
        StringBuilder guards = new StringBuilder();
        for (int place = 0; place < x.guardCount(); place++) {
            guards.append(x.guardByDuties(place));
        }
        check.same(due, guards.toString());
    }
}
