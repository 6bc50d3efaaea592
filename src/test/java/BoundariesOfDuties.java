import java.util.function.Supplier;

/** Promises 9 to 16: duties one by one. */
final class BoundariesOfDuties extends Boundaries {
    static void all() {
        assignThrows();
        assignRefused();
        assignAtTheEnds();
        assignReturns();
        canAssign();
        remove();
        exchangeThrows();
        exchangeThrowsFirst();
        exchangeRemovesFirst();
        exchangeRefused();
        exchangeReturns();
        fillSlotThrows();
        fillSlotReturns();
        guardAt();
        gateOf();
        dutiesOf();
    }

    private static void assignThrows() {
        about(9, "Throws IndexOutOfBoundsException if there is no such gate, slot or guard");
        Supplier<GuardRoster> two = made("11", "111");
        for (int wrong : beside(0, 1)) {
            changesNothing(INDEX, two, y -> y.assign(wrong, 0, 0));
        }
        for (int wrong : beside(0, 27)) {
            changesNothing(INDEX, two, y -> y.assign(0, wrong, 0));
        }
        for (int wrong : beside(0, 2)) {
            changesNothing(INDEX, two, y -> y.assign(0, 0, wrong));
        }
        for (int wrong : beside(0, 4)) {
            changesNothing(INDEX, made("11111", "1"), y -> y.assign(wrong, 0, 0));
        }
        for (int wrong : beside(0, 9)) {
            changesNothing(INDEX, made("1", "1111111111"), y -> y.assign(0, 0, wrong));
        }
        changesNothing(INDEX, made("", "1"), y -> y.assign(0, 0, 0));
        changesNothing(INDEX, made("1", ""), y -> y.assign(0, 0, 0));
        about(9, "Throws IllegalStateException if the slot has passed");
        Supplier<GuardRoster> atTen = made("1", "1", y -> y.passSlots(10));
        changesNothing(STATE, atTen, y -> y.assign(0, 9, 0));
        changesNothing(STATE, atTen, y -> y.assign(0, 0, 0));
        check.is(1, () -> atTen.get().assign(0, 10, 0));
        changesNothing(STATE, made("1", "1", y -> y.passSlots(28)), y -> y.assign(0, 27, 0));
        changesNothing(STATE, made("1", "1", y -> y.passSlots(1)), y -> y.assign(0, 0, 0));
        check.is(1, () -> made("1", "1", y -> y.passSlots(27)).get().assign(0, 27, 0));
    }

    private static void assignRefused() {
        about(9, "Throws UnsupportedOperationException if the duty is refused; the reason and the detail are kept");
        Supplier<GuardRoster> taken = made("11", "111", y -> y.assign(1, 5, 2));
        refuses(taken, y -> y.assign(1, 5, 0), GuardRoster.PLACE_TAKEN, 2);
        refuses(taken, y -> y.assign(1, 5, 2), GuardRoster.PLACE_TAKEN, 2);
        refuses(taken, y -> y.assign(0, 5, 2), GuardRoster.BUSY, 1);
        refuses(taken, y -> y.assign(0, 6, 2), GuardRoster.NO_REST_BEFORE, 1);
        refuses(taken, y -> y.assign(0, 4, 2), GuardRoster.NO_REST_AFTER, 1);
        check.is(2, () -> taken.get().assign(0, 3, 2));
        check.is(2, () -> taken.get().assign(0, 7, 2));
        refuses(made("9", "8"), y -> y.assign(0, 0, 0), GuardRoster.RANK_TOO_LOW, 8);
        refuses(made("2", "1"), y -> y.assign(0, 27, 0), GuardRoster.RANK_TOO_LOW, 1);
        check.is(1, () -> made("9", "9").get().assign(0, 0, 0));
        check.is(1, () -> made("8", "9").get().assign(0, 0, 0));
        Supplier<GuardRoster> away = made("1", "1", y -> y.grantLeave(0, 4, 6));
        refuses(away, y -> y.assign(0, 4, 0), GuardRoster.ON_LEAVE, 4);
        refuses(away, y -> y.assign(0, 6, 0), GuardRoster.ON_LEAVE, 6);
        check.is(1, () -> away.get().assign(0, 3, 0));
        check.is(1, () -> away.get().assign(0, 7, 0));
    }

    /** Slot 0 has none before it and slot 27 none after it: no gate's end is the next gate's beginning. */
    private static void assignAtTheEnds() {
        for (int gate = 0; gate < 5; gate++) {
            for (int other = 0; other < 5; other++) {
                int first = gate;
                int second = other;
                check.is(2, () -> made("11111", "11", y -> y.assign(first, 27, 0)).get().assign(second, 0, 0));
                check.is(2, () -> made("11111", "11", y -> y.assign(first, 0, 1)).get().assign(second, 27, 1));
            }
        }
        for (int leave = 0; leave < 4; leave++) {
            int slot = leave;
            GuardRoster x = made("1", "1111111111", y -> y.grantLeave(9, slot, slot)).get();
            check.is(1, () -> x.assign(0, 0, (1 << slot) - 1));
        }
        Supplier<GuardRoster> ends = made("11", "1", y -> y.assign(0, 0, 0), y -> y.assign(1, 27, 0));
        refuses(ends, y -> y.assign(1, 0, 0), GuardRoster.BUSY, 0);
        refuses(ends, y -> y.assign(1, 1, 0), GuardRoster.NO_REST_BEFORE, 0);
        refuses(ends, y -> y.assign(0, 26, 0), GuardRoster.NO_REST_AFTER, 1);
        refuses(ends, y -> y.assign(0, 27, 0), GuardRoster.BUSY, 1);
        // The slot before may have passed; its duty still asks for rest.
        refuses(made("11", "1", y -> y.assign(1, 9, 0), y -> y.passSlots(10)), y -> y.assign(0, 10, 0),
                GuardRoster.NO_REST_BEFORE, 1);
    }

    private static void assignReturns() {
        about(9, "Returns the number of duties of the guard in all slots afterwards.");
        GuardRoster x = roster("12345", "55");
        for (int slot = 0; slot < 28; slot += 2) {
            int even = slot;
            check.is(slot / 2 + 1, () -> x.assign(even % 5, even, 0));
            x.passSlots(1);
        }
        check.is(1, () -> x.assign(0, 27, 1));
    }

    private static void canAssign() {
        about(10, "Throws IndexOutOfBoundsException if there is no such gate, slot or guard");
        Supplier<GuardRoster> two = made("11", "111");
        for (int wrong : beside(0, 1)) {
            changesNothing(INDEX, two, y -> y.canAssign(wrong, 0, 0));
        }
        for (int wrong : beside(0, 27)) {
            changesNothing(INDEX, two, y -> y.canAssign(0, wrong, 0));
            changesNothing(INDEX, made("1", "1", y -> y.passSlots(28)), y -> y.canAssign(0, wrong, 0));
        }
        for (int wrong : beside(0, 2)) {
            changesNothing(INDEX, two, y -> y.canAssign(0, 0, wrong));
        }
        about(10, "Returns true if it would throw none.");
        Supplier<GuardRoster> atTen = made("1", "1", y -> y.passSlots(10));
        check.is(false, () -> atTen.get().canAssign(0, 9, 0));
        check.is(true, () -> atTen.get().canAssign(0, 10, 0));
        check.is(true, () -> atTen.get().canAssign(0, 27, 0));
        check.is(false, () -> made("1", "1", y -> y.passSlots(28)).get().canAssign(0, 27, 0));
        check.is(false, () -> made("9", "8").get().canAssign(0, 0, 0));
        check.is(true, () -> made("9", "9").get().canAssign(0, 0, 0));
        about(10, "No refusal is kept.");
        Supplier<GuardRoster> full = made("5111", "519", y -> y.assign(1, 5, 2), y -> y.grantLeave(0, 9, 9));
        int[][] refused = {{1, 5, 0}, {0, 0, 1}, {1, 9, 0}, {2, 5, 2}, {2, 6, 2}, {2, 4, 2}};
        for (int[] duty : refused) {
            GuardRoster x = full.get();
            check.is(false, () -> x.canAssign(duty[0], duty[1], duty[2]));
            check.is(NO_ELEMENT, x::refusalReason);
            check.is(NO_ELEMENT, x::refusalDetail);
            check.same(state(full.get()), state(x));
        }
        GuardRoster x = full.get();
        check.is(REFUSED, () -> x.assign(0, 0, 1));
        check.is(false, () -> x.canAssign(1, 5, 0));
        check.is(GuardRoster.RANK_TOO_LOW, x::refusalReason);
        check.is(1, x::refusalDetail);
    }

    private static void remove() {
        Supplier<GuardRoster> one = made("11", "11", y -> y.assign(1, 10, 1), y -> y.assign(0, 9, 0));
        about(11, "Throws IndexOutOfBoundsException if there is no such gate or slot");
        for (int wrong : beside(0, 1)) {
            changesNothing(INDEX, one, y -> y.remove(wrong, 10));
        }
        for (int wrong : beside(0, 27)) {
            changesNothing(INDEX, one, y -> y.remove(1, wrong));
        }
        about(11, "Throws IllegalStateException if the slot has passed");
        Supplier<GuardRoster> atTen = () -> {
            GuardRoster x = one.get();
            x.passSlots(10);
            return x;
        };
        changesNothing(STATE, atTen, y -> y.remove(0, 9));
        changesNothing(STATE, atTen, y -> y.remove(1, 9));
        changesNothing(STATE, made("1", "1", y -> y.assign(0, 27, 0), y -> y.passSlots(28)), y -> y.remove(0, 27));
        about(11, "Throws NoSuchElementException if there is no duty");
        changesNothing(NO_ELEMENT, one, y -> y.remove(0, 10));
        changesNothing(NO_ELEMENT, one, y -> y.remove(1, 9));
        changesNothing(NO_ELEMENT, one, y -> y.remove(0, 0));
        changesNothing(NO_ELEMENT, one, y -> y.remove(1, 27));
        about(11, "Returns the index of the guard who had it.");
        check.is(1, () -> atTen.get().remove(1, 10));
        check.is(0, () -> one.get().remove(0, 9));
        GuardRoster x = roster("11111", "1111111111");
        x.assign(4, 27, 9);
        x.assign(0, 0, 0);
        check.is(9, () -> x.remove(4, 27));
        check.is(0, () -> x.remove(0, 0));
        check.is(NO_ELEMENT, () -> x.remove(0, 0));
        check.is(0, x::dutyCount);
    }

    private static Supplier<GuardRoster> twoDuties() {
        return made("111", "11", y -> y.assign(0, 10, 0), y -> y.assign(1, 20, 1));
    }

    private static void exchangeThrows() {
        about(12, "Throws IndexOutOfBoundsException if there is no such gate or slot, for either");
        for (int wrong : beside(0, 2)) {
            changesNothing(INDEX, twoDuties(), y -> y.exchange(wrong, 10, 1, 20));
            changesNothing(INDEX, twoDuties(), y -> y.exchange(0, 10, wrong, 20));
            changesNothing(INDEX, twoDuties(), y -> y.exchange(wrong, 10, wrong, 10));
        }
        for (int wrong : beside(0, 27)) {
            changesNothing(INDEX, twoDuties(), y -> y.exchange(0, wrong, 1, 20));
            changesNothing(INDEX, twoDuties(), y -> y.exchange(0, 10, 1, wrong));
            changesNothing(INDEX, twoDuties(), y -> y.exchange(0, wrong, 0, wrong));
        }
        about(12, "Throws IllegalArgumentException if both duties are the same");
        changesNothing(ARGUMENT, twoDuties(), y -> y.exchange(0, 10, 0, 10));
        changesNothing(ARGUMENT, twoDuties(), y -> y.exchange(2, 27, 2, 27));
        changesNothing(ARGUMENT, made("1", "", y -> y.passSlots(28)), y -> y.exchange(0, 0, 0, 0));
        about(12, "Throws IllegalStateException if one of the slots has passed");
        for (int now : new int[] {11, 20}) {
            Supplier<GuardRoster> later = made("111", "11", y -> y.assign(0, 10, 0), y -> y.assign(1, 20, 1),
                    y -> y.passSlots(now));
            changesNothing(STATE, later, y -> y.exchange(0, 10, 1, 20));
            changesNothing(STATE, later, y -> y.exchange(1, 20, 0, 10));
        }
        Supplier<GuardRoster> bothPassed = made("11", "11", y -> y.fillSlot(26), y -> y.passSlots(27));
        changesNothing(STATE, bothPassed, y -> y.exchange(0, 26, 1, 26));
        about(12, "Throws NoSuchElementException if one of the duties does not exist");
        changesNothing(NO_ELEMENT, twoDuties(), y -> y.exchange(0, 10, 1, 10));
        changesNothing(NO_ELEMENT, twoDuties(), y -> y.exchange(0, 10, 0, 20));
        changesNothing(NO_ELEMENT, twoDuties(), y -> y.exchange(0, 20, 1, 20));
        changesNothing(NO_ELEMENT, twoDuties(), y -> y.exchange(2, 0, 2, 27));
        changesNothing(NO_ELEMENT, made("11", ""), y -> y.exchange(0, 0, 1, 0));
    }

    private static void exchangeThrowsFirst() {
        Supplier<GuardRoster> atFifteen = made("111", "11", y -> y.assign(0, 10, 0), y -> y.assign(1, 20, 1),
                y -> y.passSlots(15));
        changesNothing(INDEX, atFifteen, y -> y.exchange(0, 10, 3, 10));
        changesNothing(ARGUMENT, atFifteen, y -> y.exchange(0, 10, 0, 10));
        changesNothing(STATE, atFifteen, y -> y.exchange(2, 20, 2, 14));
        changesNothing(STATE, atFifteen, y -> y.exchange(0, 14, 1, 20));
        changesNothing(NO_ELEMENT, atFifteen, y -> y.exchange(1, 20, 2, 15));
    }

    private static void exchangeRemovesFirst() {
        about(12, "Both duties are removed first;");
        GuardRoster sameSlot = roster("11", "11");
        sameSlot.fillSlot(0);
        check.is(1, () -> sameSlot.exchange(0, 0, 1, 0));
        check.is("d0: 1 0", () -> slot(sameSlot, 0));
        GuardRoster nextSlot = made("11", "11", y -> y.assign(0, 26, 0), y -> y.assign(0, 27, 1)).get();
        check.is(1, () -> nextSlot.exchange(0, 26, 0, 27));
        check.is(1, () -> nextSlot.guardAt(0, 26));
        check.is(0, () -> nextSlot.guardAt(0, 27));
        GuardRoster ends = made("11", "11", y -> y.assign(0, 0, 0), y -> y.assign(1, 27, 1)).get();
        check.is(0, () -> ends.exchange(1, 27, 0, 0));
        check.is(1, () -> ends.guardAt(0, 0));
        check.is(0, () -> ends.guardAt(1, 27));
        check.is(4 + 2 + 1, ends::undoCount);
    }

    private static void exchangeRefused() {
        about(12, "Throws UnsupportedOperationException if a duty is refused; the reason and the detail are kept");
        // Either of the two would be refused: the first one of the call decides.
        Supplier<GuardRoster> both = made("51", "51", y -> y.assign(0, 4, 0), y -> y.assign(1, 8, 1),
                y -> y.grantLeave(0, 8, 8));
        refuses(both, y -> y.exchange(0, 4, 1, 8), GuardRoster.RANK_TOO_LOW, 1);
        refuses(both, y -> y.exchange(1, 8, 0, 4), GuardRoster.ON_LEAVE, 8);
        Supplier<GuardRoster> second = made("111", "11", y -> y.assign(0, 4, 0), y -> y.assign(1, 8, 1),
                y -> y.assign(2, 9, 0));
        refuses(second, y -> y.exchange(0, 4, 1, 8), GuardRoster.NO_REST_AFTER, 2);
        refuses(second, y -> y.exchange(1, 8, 0, 4), GuardRoster.NO_REST_AFTER, 2);
        Supplier<GuardRoster> before = made("111", "11", y -> y.assign(0, 4, 0), y -> y.assign(1, 8, 1),
                y -> y.assign(2, 3, 1));
        refuses(before, y -> y.exchange(0, 4, 1, 8), GuardRoster.NO_REST_BEFORE, 2);
        refuses(before, y -> y.exchange(1, 8, 0, 4), GuardRoster.NO_REST_BEFORE, 2);
        Supplier<GuardRoster> busy = made("111", "11", y -> y.assign(0, 4, 0), y -> y.assign(1, 8, 1),
                y -> y.assign(2, 8, 0));
        refuses(busy, y -> y.exchange(0, 4, 1, 8), GuardRoster.BUSY, 2);
        refuses(busy, y -> y.exchange(1, 8, 0, 4), GuardRoster.BUSY, 2);
        // No guard is refused for a duty that the exchange takes away.
        GuardRoster apart = made("111", "11", y -> y.assign(0, 4, 0), y -> y.assign(1, 5, 1)).get();
        check.is(1, () -> apart.exchange(0, 4, 1, 5));
    }

    private static void exchangeReturns() {
        about(12, "Returns the index of the guard who has the first duty afterwards.");
        check.is(1, () -> twoDuties().get().exchange(0, 10, 1, 20));
        check.is(0, () -> twoDuties().get().exchange(1, 20, 0, 10));
        GuardRoster now = made("11", "11", y -> y.fillSlot(27), y -> y.passSlots(27)).get();
        check.is(1, () -> now.exchange(0, 27, 1, 27));
    }

    private static void fillSlotThrows() {
        about(13, "Throws IndexOutOfBoundsException if there is no such slot");
        for (int wrong : beside(0, 27)) {
            changesNothing(INDEX, made("11", "11"), y -> y.fillSlot(wrong));
            changesNothing(INDEX, made("11", "11", y -> y.passSlots(28)), y -> y.fillSlot(wrong));
        }
        about(13, "Throws IllegalStateException if the slot has passed");
        Supplier<GuardRoster> atTen = made("11", "11", y -> y.passSlots(10));
        changesNothing(STATE, atTen, y -> y.fillSlot(9));
        changesNothing(STATE, atTen, y -> y.fillSlot(0));
        changesNothing(STATE, made("11", "11", y -> y.passSlots(28)), y -> y.fillSlot(27));
        check.is(2, () -> atTen.get().fillSlot(10));
    }

    private static void fillSlotReturns() {
        about(13, "Returns the number of duties that are added.");
        check.is(0, () -> roster("", "111").fillSlot(0));
        check.is(0, () -> roster("111", "").fillSlot(0));
        check.is(0, () -> roster("999", "888").fillSlot(0));
        check.is(5, () -> roster("11111", "11111").fillSlot(27));
        check.is(5, () -> roster("99999", "9999999999").fillSlot(0));
        check.is(4, () -> roster("11111", "1111").fillSlot(13));
        GuardRoster x = roster("11111", "11111");
        x.assign(3, 7, 4);
        check.is(4, () -> x.fillSlot(7));
        check.is(0, () -> x.fillSlot(7));
        check.is("n3: 0 1 2 4 3", () -> slot(x, 7));
        check.is(0, () -> x.fillSlot(6));
        check.is(0, () -> x.fillSlot(8));
        check.is(5, () -> x.fillSlot(9));
        check.is(8, x::undoCount);
        check.is(NO_ELEMENT, x::refusalReason);
    }

    private static void guardAt() {
        Supplier<GuardRoster> ends = made("11", "11", y -> y.assign(0, 0, 1), y -> y.assign(1, 27, 0));
        about(14, "Throws IndexOutOfBoundsException if there is no such gate or slot");
        for (int wrong : beside(0, 1)) {
            changesNothing(INDEX, ends, y -> y.guardAt(wrong, 0));
        }
        for (int wrong : beside(0, 27)) {
            changesNothing(INDEX, ends, y -> y.guardAt(0, wrong));
            changesNothing(INDEX, ends, y -> y.guardAt(1, wrong));
        }
        about(14, "Throws NoSuchElementException if there is no duty");
        changesNothing(NO_ELEMENT, ends, y -> y.guardAt(1, 0));
        changesNothing(NO_ELEMENT, ends, y -> y.guardAt(0, 27));
        changesNothing(NO_ELEMENT, ends, y -> y.guardAt(0, 1));
        about(14, "Returns the index of the guard.");
        check.is(1, () -> ends.get().guardAt(0, 0));
        check.is(0, () -> ends.get().guardAt(1, 27));
        GuardRoster x = made("11111", "1111111111", y -> y.assign(4, 27, 9), y -> y.passSlots(28)).get();
        check.is(9, () -> x.guardAt(4, 27));
    }

    private static void gateOf() {
        Supplier<GuardRoster> ends = made("11", "11", y -> y.assign(0, 0, 1), y -> y.assign(1, 27, 0));
        about(15, "Throws IndexOutOfBoundsException if there is no such guard or slot");
        for (int wrong : beside(0, 1)) {
            changesNothing(INDEX, ends, y -> y.gateOf(wrong, 0));
        }
        for (int wrong : beside(0, 27)) {
            changesNothing(INDEX, ends, y -> y.gateOf(0, wrong));
            changesNothing(INDEX, ends, y -> y.gateOf(1, wrong));
        }
        changesNothing(INDEX, made("11111", "1"), y -> y.gateOf(1, 0));
        about(15, "Throws NoSuchElementException if the guard has no duty in the slot");
        changesNothing(NO_ELEMENT, ends, y -> y.gateOf(0, 0));
        changesNothing(NO_ELEMENT, ends, y -> y.gateOf(1, 27));
        changesNothing(NO_ELEMENT, ends, y -> y.gateOf(1, 1));
        changesNothing(NO_ELEMENT, ends, y -> y.gateOf(0, 26));
        about(15, "Returns the index of the gate.");
        check.is(0, () -> ends.get().gateOf(1, 0));
        check.is(1, () -> ends.get().gateOf(0, 27));
        GuardRoster x = made("11111", "1111111111", y -> y.assign(4, 27, 9), y -> y.passSlots(28)).get();
        check.is(4, () -> x.gateOf(9, 27));
    }

    private static void dutiesOf() {
        about(16, "Throws IndexOutOfBoundsException if there is no such guard");
        for (int wrong : beside(0, 1)) {
            changesNothing(INDEX, made("11111", "11"), y -> y.dutiesOf(wrong));
        }
        for (int wrong : beside(0, 9)) {
            changesNothing(INDEX, made("1", "1111111111"), y -> y.dutiesOf(wrong));
        }
        changesNothing(INDEX, made("1", ""), y -> y.dutiesOf(0));
        about(16, "Returns the number of duties of a guard in all slots.");
        check.is(0, () -> roster("1", "1").dutiesOf(0));
        GuardRoster full = BoundariesOfRations.full();
        for (int guard = 0; guard < 10; guard++) {
            int each = guard;
            check.is(14, () -> full.dutiesOf(each));
        }
        full.passSlots(28);
        check.is(14, () -> full.dutiesOf(0));
    }
}
