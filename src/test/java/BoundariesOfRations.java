/** Promises 30 to 34: rations and time. */
final class BoundariesOfRations extends Boundaries {
    /** Each of 5 gates has a duty in each of 28 slots: guards 0 to 4 by day and 5 to 9 by night. */
    static GuardRoster full() {
        GuardRoster x = roster("11111", "1111111111");
        for (int slot = 0; slot < 28; slot++) {
            x.fillSlot(slot);
        }
        return x;
    }

    /** A roster with the given number of rations, from 0 to 99, at slot 4, with duties of slot 27 left. */
    private static GuardRoster withRations(int rations) {
        GuardRoster x = roster("11111", "1111111111");
        for (int slot = 0; slot < 4; slot++) {
            x.fillSlot(slot);
        }
        x.fillSlot(27);
        x.passSlots(4);
        for (int left = rations; left > 0; left -= Math.min(left, 50)) {
            x.addRations(Math.min(left, 50));
        }
        return x;
    }

    static void all() {
        addRations();
        passSlots();
        passSlotsFaints();
        rations();
        currentSlot();
        missingRations();
    }

    private static void addRations() {
        about(30, "Throws IllegalArgumentException if rations is not from 1 to 50");
        for (int wrong : beside(1, 50)) {
            changesNothing(ARGUMENT, made("1", "1"), y -> y.addRations(wrong));
            changesNothing(ARGUMENT, () -> withRations(0), y -> y.addRations(wrong));
        }
        check.is(21, () -> new GuardRoster().addRations(1));
        check.is(70, () -> new GuardRoster().addRations(50));
        about(30, "Throws IllegalStateException if there would be more than 99");
        changesNothing(STATE, () -> withRations(99), y -> y.addRations(1));
        changesNothing(STATE, () -> withRations(99), y -> y.addRations(50));
        changesNothing(STATE, () -> withRations(50), y -> y.addRations(50));
        changesNothing(STATE, () -> withRations(98), y -> y.addRations(2));
        about(30, "Returns the number of rations afterwards.");
        check.is(99, () -> withRations(98).addRations(1));
        check.is(99, () -> withRations(49).addRations(50));
        check.is(1, () -> withRations(0).addRations(1));
        check.is(50, () -> withRations(0).addRations(50));
    }

    private static void passSlots() {
        about(31, "Throws IllegalArgumentException if slots is not from 1 to 28");
        for (int wrong : beside(1, 28)) {
            changesNothing(ARGUMENT, made("1", "1"), y -> y.passSlots(wrong));
            changesNothing(ARGUMENT, made("1", "1", y -> y.passSlots(28)), y -> y.passSlots(wrong));
        }
        check.is(0, () -> new GuardRoster().passSlots(28));
        about(31, "Throws IllegalStateException if fewer slots are left");
        changesNothing(STATE, made("1", "1", y -> y.fillSlot(27), y -> y.passSlots(1)), y -> y.passSlots(28));
        changesNothing(STATE, made("1", "1", y -> y.fillSlot(27), y -> y.passSlots(27)), y -> y.passSlots(2));
        changesNothing(STATE, made("1", "1", y -> y.fillSlot(27), y -> y.passSlots(28)), y -> y.passSlots(1));
        changesNothing(STATE, made("1", "1", y -> y.passSlots(28)), y -> y.passSlots(28));
        GuardRoster x = roster("1", "1");
        x.passSlots(1);
        check.is(0, () -> x.passSlots(26));
        check.is(0, () -> x.passSlots(1));
        check.is(28, x::currentSlot);
    }

    private static void passSlotsFaints() {
        about(31, "Returns the number of times that guards faint.");
        check.is(120, () -> full().passSlots(28));
        GuardRoster x = full();
        check.is(0, () -> x.passSlots(4));
        check.is(5, () -> x.passSlots(1));
        x.addRations(2);
        check.is(3, () -> x.passSlots(1));
        // The duties are considered in the order of the gates: the guards at the gates 0 and 1 eat.
        check.is(0, () -> x.faints(5));
        check.is(0, () -> x.faints(6));
        check.is(1, () -> x.faints(7));
        check.is(1, () -> x.faints(9));
        x.addRations(5);
        check.is(0, () -> x.passSlots(1));
        check.is(0, x::rations);
        GuardRoster idle = roster("11111", "1111111111");
        check.is(0, () -> idle.passSlots(28));
        check.is(20, idle::rations);
    }

    private static void rations() {
        about(32, "int rations(): Returns the number of rations");
        check.is(20, () -> new GuardRoster().rations());
        check.is(0, () -> withRations(0).rations());
        check.is(1, () -> withRations(1).rations());
        check.is(99, () -> withRations(99).rations());
        GuardRoster x = full();
        x.passSlots(28);
        check.is(0, x::rations);
    }

    private static void currentSlot() {
        about(33, "Returns the slot, 28 after all slots have passed.");
        GuardRoster x = new GuardRoster();
        for (int slot = 0; slot < 28; slot++) {
            check.is(slot, x::currentSlot);
            x.passSlots(1);
        }
        check.is(28, x::currentSlot);
        check.is(STATE, () -> x.passSlots(1));
        check.is(28, x::currentSlot);
    }

    private static void missingRations() {
        about(34, "Returns the number of rations, 0 if there are enough.");
        check.is(0, () -> new GuardRoster().missingRations());
        check.is(120, () -> full().missingRations());
        check.is(5, () -> withRations(0).missingRations());
        check.is(1, () -> withRations(4).missingRations());
        check.is(0, () -> withRations(5).missingRations());
        check.is(0, () -> withRations(6).missingRations());
        check.is(0, () -> withRations(99).missingRations());
        about(34, "Returns the number of rations that would be missing if all remaining slots passed now.");
        GuardRoster x = withRations(0);
        x.passSlots(23);
        check.is(5, x::missingRations);
        check.is(5, () -> x.passSlots(1));
        check.is(0, x::missingRations);
        GuardRoster y = full();
        y.passSlots(4);
        check.is(120, y::missingRations);
        y.passSlots(1);
        check.is(115, y::missingRations);
    }
}
