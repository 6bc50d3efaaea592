import java.util.function.Supplier;

/** Promises 43 to 50: commands, undo and saved state. */
final class BoundariesOfCommands extends Boundaries {
    private static final String EIGHT_COMMANDS = "food 1;food 1;food 1;food 1;food 1;food 1;food 1;food 1";

    static void all() {
        feed();
        executeMalformed();
        executeFails();
        executeFailsAtOnesOwnLimits();
        executeNone();
        executeEmpties();
        executeKeepsRefusal();
        executeReturns();
        errorPosition();
        failedCommand();
        undo();
        undoCount();
        save();
        restore();
        restoreForgets();
    }

    private static String repeated(char character, int times) {
        return String.valueOf(character).repeat(times);
    }

    private static void feed() {
        about(43, "Throws IllegalStateException if the input buffer holds 60 characters");
        Supplier<GuardRoster> full = made("1", "1", y -> feedAll(y, repeated('g', 60)));
        for (char character : new char[] {'a', ';', '0', '\0', '\uffff'}) {
            changesNothing(STATE, full, y -> y.feed(character));
        }
        about(43, "Returns the new length of the input buffer.");
        GuardRoster x = new GuardRoster();
        check.is(1, () -> x.feed('\0'));
        check.is(2, () -> x.feed('\uffff'));
        for (int length = 3; length <= 60; length++) {
            check.is(length, () -> x.feed(' '));
        }
        check.is(STATE, () -> x.feed(' '));
        check.is(ARGUMENT, x::execute);
        check.is(1, () -> x.feed('a'));
        // The character that a full buffer refused is not in the text.
        GuardRoster y = new GuardRoster();
        feedAll(y, EIGHT_COMMANDS.replaceAll("food 1$", "leave 0 1-1"));
        check.is(STATE, () -> y.feed('5'));
        check.is(REFUSED, y::execute);
        check.is(7, y::failedCommand);
    }

    private static void executeMalformed() {
        about(44, "Throws IllegalArgumentException if the text is malformed; its error position is kept");
        String[] malformed = {"", ";", "gate", "gate 1;", "gate 12", "gate 1;;gate 1", "gate 1 ", " gate 1", "guard 10",
            "duty 0@100=0", "duty 0@0=", "free 0@", "leave 0 1", "fill", "food -1", "pass 1x", "GATE 1", "gate\t1"};
        for (String text : malformed) {
            Supplier<GuardRoster> made = made("1", "1", y -> y.assign(0, 0, 0), GuardRoster::save);
            GuardRoster x = made.get();
            check.is(ARGUMENT, () -> run(x, text));
            check.is(NO_ELEMENT, x::failedCommand);
            check.same(state(made.get()), state(x));
        }
    }

    private static void executeFails() {
        about(44, "Throws UnsupportedOperationException if a command throws an exception; the index of the command,");
        String[] failing = {"gate 0", "guard 0", "duty 1@5=0", "duty 0@28=0", "duty 0@5=1", "duty 0@4=0", "free 1@5",
            "free 0@28", "free 0@4", "free 0@5", "leave 1 5-6", "leave 0 6-5", "leave 0 5-28", "leave 0 28-28",
            "leave 0 4-6", "fill 28", "fill 99", "fill 4", "food 0", "food 51", "food 99", "food 80", "pass 0",
            "pass 29", "pass 24", "pass 99"};
        Supplier<GuardRoster> made = made("1", "1", y -> y.passSlots(5), GuardRoster::save);
        for (String command : failing) {
            for (int before = 0; before <= 2; before++) {
                GuardRoster x = made.get();
                String text = "food 9;".repeat(before) + command + ";gate 1";
                check.is(REFUSED, () -> run(x, text));
                check.is(before, x::failedCommand);
                check.is(NO_ELEMENT, x::errorPosition);
                check.is(NO_ELEMENT, x::refusalReason);
                check.same(state(made.get()), state(x));
            }
        }
        String[] justRight = {"gate 1", "gate 9", "guard 1", "guard 9", "duty 0@5=0", "duty 0@27=0", "leave 0 5-27",
            "leave 0 27-27", "fill 5", "fill 27", "food 1", "food 50", "food 01", "pass 1", "pass 23", "pass 01"};
        for (String command : justRight) {
            check.is(1, () -> run(made.get(), command));
        }
    }

    private static void executeFailsAtOnesOwnLimits() {
        GuardRoster gates = roster("1111", "");
        check.is(REFUSED, () -> run(gates, "gate 1;gate 1"));
        check.is(1, gates::failedCommand);
        check.is(1, () -> run(gates, "gate 1"));
        GuardRoster guards = roster("", "111111111");
        check.is(REFUSED, () -> run(guards, "guard 1;guard 1"));
        check.is(1, guards::failedCommand);
        check.is(1, () -> run(guards, "guard 1"));
        GuardRoster food = new GuardRoster();
        check.is(REFUSED, () -> run(food, "food 50;food 29;food 1"));
        check.is(2, food::failedCommand);
        check.is(2, () -> run(food, "food 50;food 29"));
        check.is(99, food::rations);
        GuardRoster time = new GuardRoster();
        check.is(REFUSED, () -> run(time, "pass 28;pass 1"));
        check.is(1, time::failedCommand);
        check.is(0, time::currentSlot);
        check.is(2, () -> run(time, "pass 27;pass 1"));
        check.is(28, time::currentSlot);
        check.is(REFUSED, () -> run(time, "gate 1;fill 27"));
        check.is(1, time::failedCommand);
    }

    private static void executeNone() {
        about(44, "Executes the text in the input buffer, command by command, either all commands or none.");
        Supplier<GuardRoster> made = made("15", "15", y -> y.grantLeave(0, 20, 20), GuardRoster::save,
                y -> y.addRations(1), y -> y.addRations(1), y -> y.addRations(1), y -> y.addRations(1));
        String[] texts = {"gate 9;guard 9;food 9;fill 0;pass 3;duty 0@0=0", "leave 1 5-9;fill 4;free 0@4;free 0@4",
            "pass 28;pass 28", "gate 1;gate 1;gate 1;gate 1", "duty 0@5=0;duty 1@6=1;duty 1@5=0"};
        for (String text : texts) {
            GuardRoster x = made.get();
            check.is(REFUSED, () -> run(x, text));
            check.same(state(made.get()), state(x));
        }
        GuardRoster all = made.get();
        check.is(6, () -> run(all, "gate 9;guard 9;food 9;fill 0;pass 3;duty 0@3=0"));
        check.is(3, all::gateCount);
        check.is(3, all::guardCount);
        check.is("d0: 0 1 2", () -> slot(all, 0));
        check.is(0, () -> all.guardAt(0, 3));
        check.is(3, all::currentSlot);
        check.is(20 + 4 + 9 - 3, all::rations);
    }

    private static void executeEmpties() {
        about(44, "The input buffer is empty afterwards, also if an exception is thrown.");
        GuardRoster x = roster("1", "1");
        check.is(1, () -> run(x, "food 1"));
        check.is(1, () -> x.feed('x'));
        check.is(ARGUMENT, x::execute);
        check.is(1, () -> x.feed('g'));
        check.is(2, () -> x.feed('a'));
        check.is(ARGUMENT, () -> run(x, "te 1;"));
        check.is(1, () -> x.feed('f'));
        check.is(REFUSED, () -> run(x, "ood 0"));
        check.is(1, () -> x.feed('f'));
        check.is(1, () -> run(x, "ood 1"));
        check.is(ARGUMENT, x::execute);
        check.is(0, x::errorPosition);
        check.is(22, x::rations);
    }

    private static void executeKeepsRefusal() {
        about(44, "A refusal of a command is kept, too.");
        Supplier<GuardRoster> made = made("15", "15", y -> y.assign(1, 10, 1), y -> y.grantLeave(0, 20, 20));
        String[] texts = {"duty 1@10=0", "duty 1@0=0", "duty 0@20=0", "duty 0@10=1", "duty 0@11=1", "duty 0@9=1",
            "leave 1 10-10"};
        int[] reasons = {GuardRoster.PLACE_TAKEN, GuardRoster.RANK_TOO_LOW, GuardRoster.ON_LEAVE, GuardRoster.BUSY,
            GuardRoster.NO_REST_BEFORE, GuardRoster.NO_REST_AFTER, GuardRoster.BUSY};
        int[] details = {1, 1, 20, 1, 1, 1, 1};
        for (int i = 0; i < texts.length; i++) {
            String text = texts[i];
            refuses(made, y -> run(y, text), reasons[i], details[i]);
            refuses(made, y -> run(y, "gate 1;food 9;" + text + ";pass 1"), reasons[i], details[i]);
        }
    }

    private static void executeReturns() {
        about(44, "Returns the number of commands.");
        StringBuilder text = new StringBuilder();
        for (int commands = 1; commands <= 8; commands++) {
            text.append(commands == 1 ? "" : ";").append("food 1");
            String all = text.toString();
            check.is(commands, () -> run(new GuardRoster(), all));
        }
        // A text of 60 characters fits, and no longer one.
        String longest = "food 10;food 10;food 10;food 10;food 10;pass 10;pass 1;gate 9";
        check.is(STATE, () -> run(new GuardRoster(), longest));
        String full = longest.replace("pass 10", "pass 1");
        check.same("60", String.valueOf(full.length()));
        check.is(8, () -> run(new GuardRoster(), full));
    }

    private static void errorPosition() {
        about(45, "Throws NoSuchElementException if none was kept");
        changesNothing(NO_ELEMENT, made("", ""), GuardRoster::errorPosition);
        changesNothing(NO_ELEMENT, made("1", "1", y -> run(y, "food 1"), y -> check.is(REFUSED, () -> run(y, "food 0"))),
                GuardRoster::errorPosition);
        about(45, "Returns the error position that was kept last.");
        GuardRoster x = new GuardRoster();
        check.is(ARGUMENT, x::execute);
        check.is(0, x::errorPosition);
        check.is(ARGUMENT, () -> run(x, EIGHT_COMMANDS + ";pass"));
        check.is(60, x::errorPosition);
        check.is(ARGUMENT, () -> run(x, EIGHT_COMMANDS + ";gatx"));
        check.is(59, x::errorPosition);
        check.is(1, () -> run(x, "food 1"));
        check.is(59, x::errorPosition);
        check.is(REFUSED, () -> run(x, "food 0"));
        check.is(59, x::errorPosition);
        check.is(ARGUMENT, () -> run(x, "x"));
        check.is(0, x::errorPosition);
    }

    private static void failedCommand() {
        about(46, "Throws NoSuchElementException if none was kept");
        changesNothing(NO_ELEMENT, made("", ""), GuardRoster::failedCommand);
        changesNothing(NO_ELEMENT, made("1", "1", y -> run(y, "food 1"), y -> check.is(ARGUMENT, () -> run(y, "food"))),
                GuardRoster::failedCommand);
        about(46, "Returns the failed command that was kept last.");
        GuardRoster x = new GuardRoster();
        for (int command = 0; command < 8; command++) {
            int place = command * 7 + 5;
            String text = EIGHT_COMMANDS.substring(0, place) + "0" + EIGHT_COMMANDS.substring(place + 1);
            check.is(REFUSED, () -> run(x, text));
            check.is(command, x::failedCommand);
        }
        check.is(1, () -> run(x, "food 1"));
        check.is(7, x::failedCommand);
        // Of several commands that would fail the first one is told.
        check.is(REFUSED, () -> run(x, "food 1;food 0;gate 0"));
        check.is(1, x::failedCommand);
    }

    private static void undo() {
        about(47, "Throws IllegalStateException if there is none");
        changesNothing(STATE, made("", ""), GuardRoster::undo);
        changesNothing(STATE, made("1", "", GuardRoster::undo), GuardRoster::undo);
        changesNothing(STATE, made("1", "1", GuardRoster::save, GuardRoster::restore), GuardRoster::undo);
        about(47, "Returns the number of changes that can still be undone.");
        for (int changes : new int[] {1, 2, 7, 8, 9, 10, 17, 40}) {
            GuardRoster x = new GuardRoster();
            for (int i = 0; i < changes; i++) {
                x.addRations(1);
            }
            int undone = Math.min(changes, 8);
            for (int left = undone - 1; left >= 0; left--) {
                check.is(left, x::undo);
                check.is(20 + changes - undone + left, x::rations);
            }
            check.is(STATE, x::undo);
            check.is(20 + changes - undone, x::rations);
        }
    }

    private static void undoCount() {
        about(48, "Returns the number of changes, at most 8.");
        GuardRoster x = new GuardRoster();
        check.is(0, x::undoCount);
        for (int changes = 1; changes <= 20; changes++) {
            x.addRations(1);
            check.is(Math.min(changes, 8), x::undoCount);
        }
        x.undo();
        check.is(7, x::undoCount);
        x.addRations(1);
        check.is(8, x::undoCount);
        x.addRations(1);
        check.is(8, x::undoCount);
    }

    private static void save() {
        about(49, "Returns the number of guards.");
        check.is(0, () -> new GuardRoster().save());
        check.is(0, () -> roster("11111", "").save());
        check.is(10, () -> roster("", "1111111111").save());
        about(49, "Saves everything that changes can change, in place of what was saved before.");
        GuardRoster x = roster("1", "1");
        check.is(1, x::save);
        check.is(2, x::undoCount);
        x.addGuard(9);
        check.is(2, x::save);
        x.undo();
        check.is(1, x::guardCount);
        check.is(2, x::restore);
        check.is(9, () -> x.rank(1));
        GuardRoster full = BoundariesOfRations.full();
        full.passSlots(28);
        full.addRations(50);
        check.is(10, full::save);
        for (int undone = 0; undone < 8; undone++) {
            full.undo();
        }
        check.is(110, full::dutyCount);
        check.is(0, full::currentSlot);
        check.is(10, full::restore);
        check.is(140, full::dutyCount);
        check.is(28, full::currentSlot);
        check.is(50, full::rations);
        check.is(12, () -> full.faints(9));
    }

    private static void restore() {
        about(50, "Throws IllegalStateException if nothing was saved");
        changesNothing(STATE, made("", ""), GuardRoster::restore);
        changesNothing(STATE, made("15", "51", y -> y.assign(0, 0, 0)), GuardRoster::restore);
        about(50, "Returns the number of guards.");
        GuardRoster none = roster("1", "");
        none.save();
        none.addGuard(1);
        check.is(0, none::restore);
        about(50, "Restores what was saved last, which stays saved.");
        GuardRoster x = roster("1", "1");
        x.assign(0, 0, 0);
        x.grantLeave(0, 27, 27);
        x.save();
        for (int time = 0; time < 3; time++) {
            x.remove(0, 0);
            x.endLeave(0, 27);
            x.addGate(9);
            x.passSlots(28);
            check.is(1, x::restore);
            check.is("0..........................x", () -> guard(x, 0));
            check.is(1, x::gateCount);
            check.is(0, x::currentSlot);
            check.is(20, x::rations);
        }
    }

    private static void restoreForgets() {
        about(50, "Afterwards no change can be undone.");
        for (int changes : new int[] {0, 1, 8, 9}) {
            GuardRoster x = new GuardRoster();
            x.save();
            for (int i = 0; i < changes; i++) {
                x.addRations(1);
            }
            check.is(0, x::restore);
            check.is(0, x::undoCount);
            check.is(STATE, x::undo);
            check.is(20, x::rations);
            for (int i = 0; i < 9; i++) {
                x.addRations(2);
                check.is(Math.min(i + 1, 8), x::undoCount);
            }
            for (int left = 7; left >= 0; left--) {
                check.is(left, x::undo);
                check.is(22 + 2 * left, x::rations);
            }
            check.is(STATE, x::undo);
        }
    }
}
