import java.util.function.Supplier;

/** Promises 26 to 29: leave. */
final class BoundariesOfLeave extends Boundaries {
    static void all() {
        grantLeaveIndices();
        grantLeaveSlots();
        grantLeavePassed();
        grantLeaveRefused();
        grantLeaveReturns();
        endLeave();
        isOnLeave();
        leaveSlots();
    }

    private static void grantLeaveIndices() {
        about(26, "Throws IndexOutOfBoundsException if there is no such guard");
        for (int wrong : beside(0, 1)) {
            changesNothing(INDEX, made("111", "11"), y -> y.grantLeave(wrong, 0, 27));
        }
        for (int wrong : beside(0, 9)) {
            changesNothing(INDEX, made("1", "1111111111"), y -> y.grantLeave(wrong, 0, 27));
        }
        changesNothing(INDEX, made("1", ""), y -> y.grantLeave(0, 0, 27));
    }

    private static void grantLeaveSlots() {
        about(26, "Throws IllegalArgumentException if first or last is not from 0 to 27, or first is greater than last");
        for (int wrong : beside(0, 27)) {
            changesNothing(ARGUMENT, made("1", "11"), y -> y.grantLeave(1, wrong, 27));
            changesNothing(ARGUMENT, made("1", "11"), y -> y.grantLeave(1, 0, wrong));
            changesNothing(ARGUMENT, made("1", "11"), y -> y.grantLeave(1, wrong, wrong));
        }
        changesNothing(ARGUMENT, made("1", "11"), y -> y.grantLeave(1, 1, 0));
        changesNothing(ARGUMENT, made("1", "11"), y -> y.grantLeave(1, 27, 26));
        changesNothing(ARGUMENT, made("1", "11"), y -> y.grantLeave(1, 27, 0));
    }

    private static void grantLeavePassed() {
        about(26, "Throws IllegalStateException if the first slot has passed");
        Supplier<GuardRoster> atTen = made("1", "11", y -> y.assign(0, 9, 1), y -> y.passSlots(10));
        changesNothing(STATE, atTen, y -> y.grantLeave(1, 9, 9));
        changesNothing(STATE, atTen, y -> y.grantLeave(1, 9, 27));
        changesNothing(STATE, atTen, y -> y.grantLeave(1, 0, 27));
        changesNothing(STATE, made("1", "1", y -> y.passSlots(28)), y -> y.grantLeave(0, 27, 27));
        changesNothing(STATE, made("1", "1", y -> y.passSlots(1)), y -> y.grantLeave(0, 0, 0));
        check.is(1, () -> atTen.get().grantLeave(1, 10, 10));
        check.is(18, () -> atTen.get().grantLeave(1, 10, 27));
    }

    private static void grantLeaveRefused() {
        about(26, "Throws UnsupportedOperationException if the guard has a duty in one of the slots");
        Supplier<GuardRoster> atSix = made("111", "11", y -> y.assign(2, 6, 1), y -> y.assign(1, 9, 1),
                y -> y.assign(0, 7, 0));
        refuses(atSix, y -> y.grantLeave(1, 6, 6), GuardRoster.BUSY, 2);
        refuses(atSix, y -> y.grantLeave(1, 6, 8), GuardRoster.BUSY, 2);
        refuses(atSix, y -> y.grantLeave(1, 0, 6), GuardRoster.BUSY, 2);
        refuses(atSix, y -> y.grantLeave(1, 0, 27), GuardRoster.BUSY, 2);
        refuses(atSix, y -> y.grantLeave(1, 7, 9), GuardRoster.BUSY, 1);
        refuses(atSix, y -> y.grantLeave(1, 9, 27), GuardRoster.BUSY, 1);
        check.is(6, () -> atSix.get().grantLeave(1, 0, 5));
        check.is(2, () -> atSix.get().grantLeave(1, 7, 8));
        check.is(18, () -> atSix.get().grantLeave(1, 10, 27));
        Supplier<GuardRoster> atEnds = made("12", "55", y -> y.assign(1, 0, 1), y -> y.assign(0, 27, 1));
        refuses(atEnds, y -> y.grantLeave(1, 0, 0), GuardRoster.BUSY, 1);
        refuses(atEnds, y -> y.grantLeave(1, 27, 27), GuardRoster.BUSY, 0);
        check.is(26, () -> atEnds.get().grantLeave(1, 1, 26));
    }

    private static void grantLeaveReturns() {
        about(26, "Returns the number of these slots in which the guard was not on leave before.");
        GuardRoster x = roster("1", "11");
        check.is(1, () -> x.grantLeave(1, 0, 0));
        check.is(0, () -> x.grantLeave(1, 0, 0));
        check.is(1, () -> x.grantLeave(1, 27, 27));
        check.is(26, () -> x.grantLeave(1, 0, 27));
        check.is(0, () -> x.grantLeave(1, 0, 27));
        check.is(28, () -> x.grantLeave(0, 0, 27));
        check.is("xxxxxxxxxxxxxxxxxxxxxxxxxxxx", () -> guard(x, 1));
        check.is(8, x::undoCount);
    }

    private static void endLeave() {
        Supplier<GuardRoster> onLeave = made("1", "11", y -> y.grantLeave(1, 0, 27));
        about(27, "Throws IndexOutOfBoundsException if there is no such guard or slot");
        for (int wrong : beside(0, 1)) {
            changesNothing(INDEX, onLeave, y -> y.endLeave(wrong, 0));
        }
        for (int wrong : new int[] {LEAST, -1, 28, 32, 59, 64, MOST}) {
            changesNothing(INDEX, onLeave, y -> y.endLeave(1, wrong));
        }
        about(27, "Throws NoSuchElementException if the guard is not on leave in this slot");
        changesNothing(NO_ELEMENT, onLeave, y -> y.endLeave(0, 0));
        Supplier<GuardRoster> inTheMiddle = made("1", "11", y -> y.grantLeave(1, 5, 7), y -> y.assign(0, 9, 1));
        for (int slot : new int[] {0, 4, 8, 9, 27}) {
            changesNothing(NO_ELEMENT, inTheMiddle, y -> y.endLeave(1, slot));
        }
        about(27, "Returns the number of slots in which the guard is on leave afterwards.");
        GuardRoster x = onLeave.get();
        check.is(27, () -> x.endLeave(1, 0));
        check.is(26, () -> x.endLeave(1, 27));
        check.is(NO_ELEMENT, () -> x.endLeave(1, 27));
        check.is(".xxxxxxxxxxxxxxxxxxxxxxxxxx.", () -> guard(x, 1));
        GuardRoster one = roster("", "1");
        one.grantLeave(0, 3, 3);
        check.is(0, () -> one.endLeave(0, 3));
        check.is("............................", () -> guard(one, 0));
    }

    private static void isOnLeave() {
        Supplier<GuardRoster> onLeave = made("1", "11", y -> y.grantLeave(1, 0, 27));
        about(28, "Throws IndexOutOfBoundsException if there is no such guard or slot");
        for (int wrong : beside(0, 1)) {
            changesNothing(INDEX, onLeave, y -> y.isOnLeave(wrong, 0));
        }
        for (int wrong : new int[] {LEAST, -1, 28, 32, 59, 64, MOST}) {
            changesNothing(INDEX, onLeave, y -> y.isOnLeave(1, wrong));
        }
        about(28, "Returns true if the guard is on leave.");
        GuardRoster ends = roster("1", "1");
        ends.grantLeave(0, 0, 0);
        ends.grantLeave(0, 27, 27);
        for (int slot = 0; slot < 28; slot++) {
            int each = slot;
            check.is(slot == 0 || slot == 27, () -> ends.isOnLeave(0, each));
        }
        ends.passSlots(28);
        check.is(true, () -> ends.isOnLeave(0, 0));
    }

    private static void leaveSlots() {
        about(29, "Throws IndexOutOfBoundsException if there is no such guard");
        for (int wrong : beside(0, 1)) {
            changesNothing(INDEX, made("111", "11", y -> y.grantLeave(1, 0, 27)), y -> y.leaveSlots(wrong));
        }
        for (int wrong : beside(0, 9)) {
            changesNothing(INDEX, made("1", "1111111111"), y -> y.leaveSlots(wrong));
        }
        changesNothing(INDEX, made("1", ""), y -> y.leaveSlots(0));
        about(29, "leaveSlots(int guard) throws IndexOutOfBoundsException: Returns the number of slots");
        GuardRoster x = roster("1", "11");
        check.is(0, () -> x.leaveSlots(1));
        x.grantLeave(1, 27, 27);
        check.is(1, () -> x.leaveSlots(1));
        x.grantLeave(1, 0, 27);
        check.is(28, () -> x.leaveSlots(1));
        x.passSlots(28);
        check.is(28, () -> x.leaveSlots(1));
        check.is(0, () -> x.leaveSlots(0));
    }
}
