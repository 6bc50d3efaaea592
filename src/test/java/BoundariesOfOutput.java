import java.util.function.Supplier;

/** Promises 35 to 42: refusals, statistics and output. */
final class BoundariesOfOutput extends Boundaries {
    static void all() {
        refusalReason();
        refusalDetail();
        refusalOfTheLatest();
        meanDuties();
        coveredFraction();
        writeSlotThrows();
        writeSlotText();
        writeGuardThrows();
        writeGuardText();
        outputCharacter();
        isConsistent();
    }

    private static void refusalReason() {
        about(35, "Throws NoSuchElementException if nothing was refused");
        changesNothing(NO_ELEMENT, made("", ""), GuardRoster::refusalReason);
        // These calls fail, but none of them for a refusal.
        Supplier<GuardRoster> failed = made("1", "1", y -> check.is(INDEX, () -> y.assign(1, 0, 0)),
                y -> check.is(NO_ELEMENT, () -> y.remove(0, 0)), y -> check.is(ARGUMENT, () -> y.grantLeave(0, 1, 0)),
                y -> y.passSlots(1), y -> check.is(STATE, () -> y.assign(0, 0, 0)),
                y -> check.is(REFUSED, () -> run(y, "food 0")), y -> check.is(ARGUMENT, () -> run(y, "food")));
        changesNothing(NO_ELEMENT, failed, GuardRoster::refusalReason);
        about(35, "Returns one of the constants.");
        check.is(GuardRoster.RANK_TOO_LOW, () -> refusedOnce().refusalReason());
    }

    private static void refusalDetail() {
        about(36, "Throws NoSuchElementException if nothing was refused");
        changesNothing(NO_ELEMENT, made("", ""), GuardRoster::refusalDetail);
        changesNothing(NO_ELEMENT, made("9", "1", y -> y.canAssign(0, 0, 0), y -> y.fillSlot(0),
                y -> y.mostDuties(0), y -> y.mostDutiesBySets(0), GuardRoster::isConsistent),
                GuardRoster::refusalDetail);
        about(36, "Returns the detail.");
        check.is(1, () -> refusedOnce().refusalDetail());
        // A detail of 0 is a detail, too.
        GuardRoster x = made("11", "11", y -> y.assign(0, 0, 0)).get();
        check.is(REFUSED, () -> x.assign(0, 0, 1));
        check.is(0, x::refusalDetail);
    }

    private static GuardRoster refusedOnce() {
        GuardRoster x = roster("9", "1");
        check.is(REFUSED, () -> x.assign(0, 0, 0));
        return x;
    }

    private static void refusalOfTheLatest() {
        about(35, "Returns the reason of the latest refusal.");
        GuardRoster x = roster("15", "15");
        x.assign(0, 4, 1);
        int[][] refused = {{1, 9, 0, GuardRoster.RANK_TOO_LOW, 1}, {0, 4, 0, GuardRoster.PLACE_TAKEN, 1},
            {1, 4, 1, GuardRoster.BUSY, 0}, {1, 5, 1, GuardRoster.NO_REST_BEFORE, 0},
            {1, 3, 1, GuardRoster.NO_REST_AFTER, 0}};
        for (int[] duty : refused) {
            check.is(REFUSED, () -> x.assign(duty[0], duty[1], duty[2]));
            check.is(duty[3], x::refusalReason);
            check.is(duty[4], x::refusalDetail);
        }
        about(36, "Returns the detail of the latest refusal.");
        check.is(2, () -> x.assign(0, 6, 1));
        check.is(REFUSED, () -> x.grantLeave(1, 5, 27));
        check.is(GuardRoster.BUSY, x::refusalReason);
        check.is(0, x::refusalDetail);
        x.grantLeave(1, 27, 27);
        check.is(REFUSED, () -> run(x, "food 1;duty 0@27=1"));
        check.is(GuardRoster.ON_LEAVE, x::refusalReason);
        check.is(27, x::refusalDetail);
        x.undo();
        check.is(27, x::refusalDetail);
    }

    private static void meanDuties() {
        about(37, "Throws ArithmeticException if there are no guards");
        changesNothing(ARITHMETIC, made("", ""), GuardRoster::meanDuties);
        changesNothing(ARITHMETIC, made("11111", ""), GuardRoster::meanDuties);
        changesNothing(ARITHMETIC, made("", "1", GuardRoster::undo), GuardRoster::meanDuties);
        about(37, "Returns the mean.");
        check.is(0.0, () -> roster("", "1").meanDuties());
        check.is(14.0, () -> BoundariesOfRations.full().meanDuties());
        check.is(1.0 / 10.0, () -> made("1", "1111111111", y -> y.fillSlot(0)).get().meanDuties());
        check.is(2.0 / 3.0, () -> made("11", "111", y -> y.fillSlot(27)).get().meanDuties());
        check.is(1.0 / 7.0, () -> made("1", "1111111", y -> y.fillSlot(0), y -> y.passSlots(28)).get().meanDuties());
    }

    private static void coveredFraction() {
        about(38, "Throws ArithmeticException if there are no gates");
        changesNothing(ARITHMETIC, made("", ""), GuardRoster::coveredFraction);
        changesNothing(ARITHMETIC, made("", "1111111111"), GuardRoster::coveredFraction);
        changesNothing(ARITHMETIC, made("1", "", GuardRoster::undo), GuardRoster::coveredFraction);
        about(38, "Returns the fraction.");
        check.is(0.0f, () -> roster("1", "").coveredFraction());
        check.is(1.0f, () -> BoundariesOfRations.full().coveredFraction());
        check.is(1.0f / 28.0f, () -> made("1", "1", y -> y.fillSlot(27)).get().coveredFraction());
        check.is(1.0f / 140.0f, () -> made("11111", "1", y -> y.fillSlot(0)).get().coveredFraction());
        check.is(5.0f / 84.0f, () -> made("111", "111", y -> y.fillSlot(0), y -> y.assign(0, 2, 0),
                y -> y.assign(1, 27, 0), y -> y.passSlots(28)).get().coveredFraction());
    }

    private static void writeSlotThrows() {
        about(39, "Throws IndexOutOfBoundsException if there is no such slot");
        for (int wrong : beside(0, 27)) {
            changesNothing(INDEX, made("11", "11", y -> y.writeGuard(0)), y -> y.writeSlot(wrong));
            changesNothing(INDEX, made("", "", y -> y.writeSlot(27)), y -> y.writeSlot(wrong));
        }
    }

    private static void writeSlotText() {
        about(39, "Returns the length of the output.");
        String[] starts = {"d0:", "n0:", "d1:", "n1:"};
        for (int slot = 0; slot < starts.length; slot++) {
            int each = slot;
            check.is(3, () -> new GuardRoster().writeSlot(each));
            check.is(starts[slot], () -> slot(new GuardRoster(), each));
        }
        check.is("n9:", () -> slot(new GuardRoster(), 19));
        check.is("d10:", () -> slot(new GuardRoster(), 20));
        check.is("n13:", () -> slot(new GuardRoster(), 27));
        check.is(14, () -> BoundariesOfRations.full().writeSlot(27));
        check.is("n13: 5 6 7 8 9", () -> slot(BoundariesOfRations.full(), 27));
        check.is("d0: - - - - -", () -> slot(roster("11111", "1"), 0));
        about(39, "Writes a slot as the output, which replaces the previous one:");
        GuardRoster x = roster("11", "1");
        x.writeGuard(0);
        check.is(7, () -> x.writeSlot(1));
        check.is(INDEX, () -> x.outputCharacter(7));
        check.is(28, () -> x.writeGuard(0));
        check.is('.', () -> x.outputCharacter(7));
        about(39, "Example: \"n6: 3 - 0\".");
        check.is("n6: 3 - 0", () -> slot(made("111", "1111", y -> y.assign(0, 13, 3),
                y -> y.assign(2, 13, 0)).get(), 13));
    }

    private static void writeGuardThrows() {
        about(40, "Throws IndexOutOfBoundsException if there is no such guard");
        for (int wrong : beside(0, 1)) {
            changesNothing(INDEX, made("11111", "11", y -> y.writeSlot(0)), y -> y.writeGuard(wrong));
        }
        for (int wrong : beside(0, 9)) {
            changesNothing(INDEX, made("1", "1111111111", y -> y.writeGuard(9)), y -> y.writeGuard(wrong));
        }
        changesNothing(INDEX, made("1", ""), y -> y.writeGuard(0));
    }

    private static void writeGuardText() {
        about(40, "Writes a guard as the output, which replaces the previous one: 28 characters,");
        GuardRoster full = BoundariesOfRations.full();
        check.is("0.0.0.0.0.0.0.0.0.0.0.0.0.0.", () -> guard(full, 0));
        check.is(".4.4.4.4.4.4.4.4.4.4.4.4.4.4", () -> guard(full, 9));
        GuardRoster away = roster("", "11");
        away.grantLeave(1, 0, 27);
        check.is("............................", () -> guard(away, 0));
        check.is("xxxxxxxxxxxxxxxxxxxxxxxxxxxx", () -> guard(away, 1));
        about(40, "Returns the length of the output.");
        check.is(28, () -> away.writeGuard(0));
        GuardRoster ends = made("11", "1", y -> y.assign(1, 0, 0), y -> y.assign(0, 27, 0),
                y -> y.grantLeave(0, 1, 26), y -> y.passSlots(28)).get();
        check.is("1xxxxxxxxxxxxxxxxxxxxxxxxxx0", () -> guard(ends, 0));
    }

    private static void outputCharacter() {
        about(41, "Throws IndexOutOfBoundsException if there is no such character");
        for (int wrong : beside(0, 27)) {
            changesNothing(INDEX, made("1", "1", y -> y.writeGuard(0)), y -> y.outputCharacter(wrong));
        }
        for (int wrong : new int[] {LEAST, -1, 3, 4, 27, 28, MOST}) {
            changesNothing(INDEX, made("", "1", y -> y.writeGuard(0), y -> y.writeSlot(0)),
                    y -> y.outputCharacter(wrong));
        }
        about(41, "Returns a character of the output, which is empty at first.");
        for (int wrong : new int[] {LEAST, -1, 0, 1, MOST}) {
            changesNothing(INDEX, made("1", "1"), y -> y.outputCharacter(wrong));
        }
        about(41, "Returns the character.");
        GuardRoster x = roster("1", "1");
        x.assign(0, 27, 0);
        x.grantLeave(0, 0, 0);
        x.writeGuard(0);
        check.is('x', () -> x.outputCharacter(0));
        check.is('.', () -> x.outputCharacter(26));
        check.is('0', () -> x.outputCharacter(27));
        // The output is what was written, not what would be written now.
        x.remove(0, 27);
        check.is('0', () -> x.outputCharacter(27));
    }

    private static void isConsistent() {
        about(42, "Returns true if it is consistent.");
        check.is(true, () -> new GuardRoster().isConsistent());
        check.is(true, () -> BoundariesOfRations.full().isConsistent());
        check.is(true, () -> roster("99999", "8888888888").isConsistent());
        GuardRoster x = BoundariesOfRations.full();
        x.passSlots(28);
        check.is(true, x::isConsistent);
        Supplier<GuardRoster> asked = made("51", "15", y -> y.assign(0, 27, 1));
        GuardRoster y = asked.get();
        check.is(true, y::isConsistent);
        check.same(aside(asked.get()), aside(y));
        check.same(state(asked.get()), state(y));
    }
}
