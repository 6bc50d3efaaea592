import java.util.NoSuchElementException;
import java.util.function.Supplier;

/** What the tests share: rosters made from texts, and pictures of all that a roster answers. */
abstract class RosterCalls {
    static final Class<?> INDEX = IndexOutOfBoundsException.class;
    static final Class<?> ARGUMENT = IllegalArgumentException.class;
    static final Class<?> STATE = IllegalStateException.class;
    static final Class<?> NO_ELEMENT = NoSuchElementException.class;
    static final Class<?> REFUSED = UnsupportedOperationException.class;
    static final Class<?> ARITHMETIC = ArithmeticException.class;
    static final int LEAST = Integer.MIN_VALUE;
    static final int MOST = Integer.MAX_VALUE;

    static final Check check = new Check();

    interface Call {
        Object on(GuardRoster x);
    }

    interface Step {
        void on(GuardRoster x);
    }

    /** A roster with gates and guards whose ranks are the digits of the two texts. */
    static GuardRoster roster(String gates, String guards) {
        GuardRoster x = new GuardRoster();
        for (char digit : gates.toCharArray()) {
            x.addGate(digit - '0');
        }
        for (char digit : guards.toCharArray()) {
            x.addGuard(digit - '0');
        }
        return x;
    }

    static Supplier<GuardRoster> made(String gates, String guards, Step... steps) {
        return () -> {
            GuardRoster x = roster(gates, guards);
            for (Step step : steps) {
                step.on(x);
            }
            return x;
        };
    }

    static void feedAll(GuardRoster x, String characters) {
        for (char character : characters.toCharArray()) {
            x.feed(character);
        }
    }

    static int run(GuardRoster x, String text) {
        feedAll(x, text);
        return x.execute();
    }

    static String output(GuardRoster x, int length) {
        StringBuilder characters = new StringBuilder();
        for (int i = 0; i < length; i++) {
            characters.append(x.outputCharacter(i));
        }
        return characters.toString();
    }

    static String slot(GuardRoster x, int slot) {
        return output(x, x.writeSlot(slot));
    }

    static String guard(GuardRoster x, int guard) {
        return output(x, x.writeGuard(guard));
    }

    /** Numbers beside and far from those that go from first to last. */
    static int[] beside(int first, int last) {
        return new int[] {LEAST, first - 1, last + 1, MOST};
    }

    /** The call throws what is due, and then the roster answers like one that it was not made on. */
    static void changesNothing(Class<?> due, Supplier<GuardRoster> made, Call call) {
        GuardRoster x = made.get();
        check.is(due, () -> call.on(x));
        GuardRoster untouched = made.get();
        check.same(aside(untouched), aside(x));
        check.same(state(untouched), state(x));
    }

    /** The call is refused for the reason and the detail, and nothing else is different afterwards. */
    static void refuses(Supplier<GuardRoster> made, Call call, int reason, int detail) {
        GuardRoster x = made.get();
        check.is(REFUSED, () -> call.on(x));
        check.is(reason, x::refusalReason);
        check.is(detail, x::refusalDetail);
        check.same(state(made.get()), state(x));
    }

    /** All that neither undo nor saving touches. It feeds a character. */
    static String aside(GuardRoster x) {
        StringBuilder all = new StringBuilder();
        all.append(Check.answer(x::refusalReason)).append(' ').append(Check.answer(x::refusalDetail)).append(' ');
        all.append(Check.answer(x::errorPosition)).append(' ').append(Check.answer(x::failedCommand)).append(' ');
        String character = "";
        for (int i = 0; !character.equals("IndexOutOfBoundsException"); i++) {
            int index = i;
            character = Check.answer(() -> x.outputCharacter(index));
            all.append(character);
        }
        return all.append(' ').append(Check.answer(() -> x.feed('x'))).toString();
    }

    /** All that changes can change, what undo brings back, and what is saved. It undoes and restores. */
    static String state(GuardRoster x) {
        StringBuilder all = new StringBuilder(picture(x)).append(numbers(x));
        while (x.undoCount() > 0) {
            all.append(Check.answer(x::undo)).append(numbers(x));
        }
        return all.append(Check.answer(x::restore)).append(numbers(x)).toString();
    }

    static String picture(GuardRoster x) {
        StringBuilder all = new StringBuilder();
        for (int gate = 0; gate < x.gateCount(); gate++) {
            all.append(x.neededRank(gate)).append(' ');
        }
        for (int guard = 0; guard < x.guardCount(); guard++) {
            all.append(guard(x, guard)).append(x.rank(guard)).append(x.faints(guard)).append(' ');
        }
        return all.append(x.rations()).append(' ').append(x.currentSlot()).toString();
    }

    private static String numbers(GuardRoster x) {
        StringBuilder all = new StringBuilder("[");
        all.append(x.gateCount()).append(' ').append(x.guardCount()).append(' ').append(x.dutyCount()).append(' ');
        all.append(x.rations()).append(' ').append(x.currentSlot()).append(' ');
        all.append(Check.answer(() -> x.leaveSlots(0))).append(' ').append(Check.answer(() -> x.guardByDuties(0)));
        return all.append("] ").toString();
    }
}
