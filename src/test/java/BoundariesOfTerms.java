import java.util.function.Supplier;

/** The terms: what holds for several promises at once. */
final class BoundariesOfTerms extends Boundaries {
    static void all() {
        rest();
        slots();
        gatesAndGuards();
        leave();
        duties();
        refusals();
        filling();
        fillingChooses();
        notes();
        rations();
        texts();
        shortestTexts();
        numbers();
        errorPositions();
        errorPositionsOfEachCommand();
        keywords();
        changes();
        changesThatAlterNothing();
        noChanges();
        latestChanges();
        leftAside();
        exceptionsChangeNothing();
        firstConditionDecides();
        constants();
    }

    private static void rest() {
        aboutTerms("No guard has duties in two slots in a row.");
        Supplier<GuardRoster> one = made("11", "11", y -> y.assign(0, 13, 0));
        refuses(one, y -> y.assign(1, 12, 0), GuardRoster.NO_REST_AFTER, 0);
        refuses(one, y -> y.assign(1, 14, 0), GuardRoster.NO_REST_BEFORE, 0);
        check.is(2, () -> one.get().assign(1, 11, 0));
        check.is(2, () -> one.get().assign(1, 15, 0));
        GuardRoster x = one.get();
        check.is(1, () -> x.fillSlot(12));
        check.is(1, () -> x.guardAt(0, 12));
        check.is(1, () -> x.fillSlot(14));
        check.is(1, () -> x.guardAt(0, 14));
    }

    private static void slots() {
        aboutTerms("There are 28 slots, numbered from 0, two for each of 14 days:");
        for (int day = 0; day < 14; day++) {
            String name = String.valueOf(day);
            int dayslot = 2 * day;
            check.is("d" + name + ":", () -> slot(new GuardRoster(), dayslot));
            check.is("n" + name + ":", () -> slot(new GuardRoster(), dayslot + 1));
        }
        check.is(INDEX, () -> new GuardRoster().writeSlot(28));
        check.is(INDEX, () -> new GuardRoster().writeSlot(-1));
        aboutTerms("The current slot is 0 at first; it can become 28.");
        GuardRoster x = roster("1", "1");
        check.is(0, x::currentSlot);
        check.is(0, () -> x.passSlots(28));
        check.is(28, x::currentSlot);
        check.is(STATE, () -> x.passSlots(1));
        aboutTerms("Slots with smaller numbers than the current one have passed.");
        for (int now : new int[] {1, 14, 27, 28}) {
            Supplier<GuardRoster> later = made("1", "1", y -> y.passSlots(now));
            changesNothing(STATE, later, y -> y.assign(0, now - 1, 0));
            changesNothing(STATE, later, y -> y.fillSlot(now - 1));
            if (now < 28) {
                check.is(1, () -> later.get().assign(0, now, 0));
                check.is(1, () -> later.get().fillSlot(now));
            }
        }
        check.is(1, () -> roster("1", "1").assign(0, 0, 0));
    }

    private static void gatesAndGuards() {
        aboutTerms("There are at most 5 gates; their indices start at 0 and follow the order in which they were added.");
        GuardRoster x = new GuardRoster();
        for (int i = 0; i < 5; i++) {
            int rank = 9 - i;
            check.is(i, () -> x.addGate(rank));
        }
        check.is(STATE, () -> x.addGate(9));
        for (int i = 0; i < 5; i++) {
            int gate = i;
            check.is(9 - i, () -> x.neededRank(gate));
        }
        aboutTerms("A gate needs a rank from 1 to 9.");
        check.is(ARGUMENT, () -> new GuardRoster().addGate(0));
        check.is(ARGUMENT, () -> new GuardRoster().addGate(10));
        aboutTerms("There are at most 10 guards; their indices start at 0 and follow the order in which they were added.");
        for (int i = 0; i < 10; i++) {
            int rank = i % 9 + 1;
            check.is(i, () -> x.addGuard(rank));
        }
        check.is(STATE, () -> x.addGuard(9));
        for (int i = 0; i < 10; i++) {
            int guard = i;
            check.is(i % 9 + 1, () -> x.rank(guard));
        }
        aboutTerms("A guard has a rank from 1 to 9.");
        check.is(ARGUMENT, () -> new GuardRoster().addGuard(0));
        check.is(ARGUMENT, () -> new GuardRoster().addGuard(10));
    }

    private static void leave() {
        aboutTerms("A guard can be on leave in some slots.");
        GuardRoster x = roster("", "11");
        x.grantLeave(0, 0, 27);
        check.is(28, () -> x.leaveSlots(0));
        check.is(0, () -> x.leaveSlots(1));
    }

    private static void duties() {
        aboutTerms("A duty is that of a guard at a gate in a slot.");
        GuardRoster x = made("11111", "1111111111", y -> y.assign(4, 27, 9)).get();
        check.is(9, () -> x.guardAt(4, 27));
        check.is(4, () -> x.gateOf(9, 27));
        aboutTerms("There is at most one duty for each gate in each slot.");
        refuses(made("1", "11", y -> y.assign(0, 0, 1)), y -> y.assign(0, 0, 0), GuardRoster.PLACE_TAKEN, 1);
        GuardRoster full = made("1", "11", y -> y.assign(0, 0, 1)).get();
        check.is(0, () -> full.fillSlot(0));
        check.is(1, () -> full.guardAt(0, 0));
        check.is(1, full::dutyCount);
    }

    /** A row of rosters in which one reason after the other falls away from the same duty. */
    private static void refusals() {
        aboutTerms("A duty is refused for the first of these reasons that applies:");
        Step taken = y -> y.assign(0, 5, 1);
        Step before = y -> y.assign(1, 4, 0);
        Step after = y -> y.assign(2, 6, 0);
        Step away = y -> y.grantLeave(0, 5, 5);
        Step busy = y -> y.assign(2, 5, 0);
        String high = "911";
        String low = "111";
        refuses(made(high, "49", taken, before, after, away), y -> y.assign(0, 5, 0), GuardRoster.PLACE_TAKEN, 1);
        refuses(made(high, "49", before, after, away), y -> y.assign(0, 5, 0), GuardRoster.RANK_TOO_LOW, 4);
        refuses(made(low, "49", before, after, away), y -> y.assign(0, 5, 0), GuardRoster.ON_LEAVE, 5);
        refuses(made(low, "49", before, after), y -> y.assign(0, 5, 0), GuardRoster.NO_REST_BEFORE, 1);
        refuses(made(low, "49", after), y -> y.assign(0, 5, 0), GuardRoster.NO_REST_AFTER, 2);
        refuses(made(high, "49", taken, busy), y -> y.assign(0, 5, 0), GuardRoster.PLACE_TAKEN, 1);
        refuses(made(high, "49", busy), y -> y.assign(0, 5, 0), GuardRoster.RANK_TOO_LOW, 4);
        refuses(made(low, "49", busy), y -> y.assign(0, 5, 0), GuardRoster.BUSY, 2);
        check.is(1, () -> roster(low, "49").assign(0, 5, 0));
        aboutTerms("The reason and the detail of the latest refusal are kept.");
        GuardRoster x = made(low, "49", busy).get();
        check.is(REFUSED, () -> x.assign(0, 5, 0));
        check.is(1, () -> x.assign(0, 0, 1));
        check.is(INDEX, () -> x.assign(0, 28, 0));
        check.is(GuardRoster.BUSY, x::refusalReason);
        check.is(2, x::refusalDetail);
    }

    private static void filling() {
        aboutTerms("To fill a slot means: the gates without a duty in this slot are considered, the highest needed rank first,");
        // The guard of rank 9 would fit each gate, but there is no other one for the highest.
        check.is("d0: - - 0 - -", () -> filled("13952", "9", 0));
        check.is("d0: - 0 - 1 -", () -> filled("19595", "99", 0));
        check.is("n13: 0 1 - - -", () -> filled("99999", "99", 27));
        check.is("n13: 0 1 2", () -> filled("123", "765", 27));
        aboutTerms("A gate for which there is no such guard stays without a duty.");
        check.is("d0: - 0", () -> filled("91", "8", 0));
        check.is("d0: - -", () -> filled("99", "8888888888", 0));
        check.is("d0: - -", () -> filled("11", "", 0));
    }

    private static String filled(String gates, String guards, int slot) {
        GuardRoster x = roster(gates, guards);
        x.fillSlot(slot);
        return slot(x, slot);
    }

    private static void fillingChooses() {
        aboutTerms("For each of them, of all guards whose duty there would not be refused, the one with the fewest duties");
        check.is("d0: 1", () -> filled("5", "951", 0));
        check.is("d0: 1", () -> filled("1", "211", 0));
        check.is("d0: 0", () -> filled("1", "1111111111", 0));
        check.is("d0: 9", () -> filled("9", "8888888889", 0));
        // One duty more outweighs the lowest rank, and passed duties count.
        GuardRoster x = made("1", "19", y -> y.assign(0, 0, 0), y -> y.passSlots(1)).get();
        check.is(1, () -> x.fillSlot(27));
        check.is(1, () -> x.guardAt(0, 27));
        check.is(1, () -> x.fillSlot(5));
        check.is(0, () -> x.guardAt(0, 5));
    }

    private static void notes() {
        aboutTerms("Two duties of the same guard can be exchanged; nothing is different then.");
        Supplier<GuardRoster> same = made("159", "99", y -> y.assign(0, 0, 1), y -> y.assign(2, 2, 1),
                y -> y.assign(1, 27, 1));
        int[][] pairs = {{0, 0, 2, 2}, {2, 2, 0, 0}, {0, 0, 1, 27}, {1, 27, 2, 2}};
        for (int[] pair : pairs) {
            GuardRoster x = same.get();
            int changes = x.undoCount();
            check.is(1, () -> x.exchange(pair[0], pair[1], pair[2], pair[3]));
            check.is(NO_ELEMENT, x::refusalReason);
            check.is(Math.min(changes + 1, 8), x::undoCount);
            check.same(picture(same.get()), picture(x));
        }
        aboutTerms("mostDuties and endLeave do not ask whether a slot has passed.");
        GuardRoster x = made("11", "11", y -> y.grantLeave(1, 0, 27), y -> y.passSlots(28)).get();
        check.is(1, () -> x.mostDuties(0));
        check.is(1, () -> x.mostDutiesBySets(27));
        check.is(27, () -> x.endLeave(1, 0));
        check.is(26, () -> x.endLeave(1, 27));
        check.is(2, () -> x.mostDuties(0));
        check.is(2, () -> x.mostDutiesBySets(27));
    }

    private static void rations() {
        aboutTerms("There are from 0 to 99 rations, at first 20.");
        check.is(20, () -> new GuardRoster().rations());
        GuardRoster most = new GuardRoster();
        check.is(70, () -> most.addRations(50));
        check.is(99, () -> most.addRations(29));
        check.is(STATE, () -> most.addRations(1));
        GuardRoster none = BoundariesOfRations.full();
        check.is(120, () -> none.passSlots(28));
        check.is(0, none::rations);
        aboutTerms("When the current slot passes, its duties are considered in the order of the gates: if there is a ration,");
        // The order of the gates is not that of the guards.
        GuardRoster x = made("111", "111", y -> y.assign(0, 20, 2), y -> y.assign(1, 20, 0), y -> y.assign(2, 20, 1),
                y -> eat(y, 18)).get();
        check.is(2, x::rations);
        check.is(1, () -> x.passSlots(2));
        check.is(0, () -> x.faints(2));
        check.is(0, () -> x.faints(0));
        check.is(1, () -> x.faints(1));
        aboutTerms("Then the current slot increases by 1.");
        check.is(21, x::currentSlot);
    }

    /** Lets the rations be eaten down by duties in the slots 0 to 18, of which all pass. */
    private static void eat(GuardRoster x, int rations) {
        for (int i = 0; i < rations; i++) {
            int slot = i / 2 * 2;
            x.assign(i % 2, slot, i % 2);
        }
        x.passSlots(19);
    }

    private static void texts() {
        aboutTerms("The input buffer holds at most 60 characters.");
        GuardRoster x = new GuardRoster();
        feedAll(x, "food 10;food 10;food 10;food 10;food 10;pass 1;pass 1;gate 9");
        check.is(STATE, () -> x.feed(';'));
        check.is(8, x::execute);
        aboutTerms("A text consists of one or more commands, separated by semicolons:");
        GuardRoster each = new GuardRoster();
        check.is(2, () -> run(each, "gate 3;guard 9"));
        check.is(3, () -> each.neededRank(0));
        check.is(9, () -> each.rank(0));
        check.is(3, () -> run(each, "gate 1;guard 1;duty 1@13=0"));
        check.is(0, () -> each.guardAt(1, 13));
        check.is(1, () -> run(each, "free 1@13"));
        check.is(0, each::dutyCount);
        check.is(1, () -> run(each, "leave 1 10-27"));
        check.is("..........xxxxxxxxxxxxxxxxxx", () -> guard(each, 1));
        check.is(3, () -> run(each, "fill 27;food 49;pass 28"));
        check.is("n13: 0 -", () -> slot(each, 27));
        check.is(68, each::rations);
        check.is(28, each::currentSlot);
    }

    private static void shortestTexts() {
        aboutTerms("A text is malformed if it does not have this form.");
        check.is(ARGUMENT, () -> new GuardRoster().execute());
        for (String command : new String[] {"gate 1", "guard 1", "fill 0", "food 1", "pass 1"}) {
            check.is(1, () -> run(new GuardRoster(), command));
            check.is(ARGUMENT, () -> run(new GuardRoster(), command.substring(0, command.length() - 1)));
            check.is(ARGUMENT, () -> run(new GuardRoster(), command.substring(1)));
            for (char character : new char[] {' ', ';', ',', '\0', '\n', '\u00ff', '\uffff', '\u0661'}) {
                check.is(ARGUMENT, () -> run(new GuardRoster(), command + character));
                check.is(ARGUMENT, () -> run(new GuardRoster(), character + command));
            }
        }
    }

    private static void numbers() {
        aboutTerms("Numbers have one or two digits.");
        String[] numbers = {"0", "00", "9", "09", "10", "27"};
        for (String number : numbers) {
            int slot = Integer.parseInt(number);
            GuardRoster x = roster("11", "11");
            check.is(1, () -> run(x, "duty 1@" + number + "=1"));
            check.is(1, () -> x.guardAt(1, slot));
            check.is(1, () -> run(x, "free 1@" + number));
            check.is(1, () -> run(x, "leave 1 " + number + "-" + number));
            check.is(true, () -> x.isOnLeave(1, slot));
            check.is(1, () -> run(x, "fill " + number));
            check.is(0, () -> x.guardAt(0, slot));
        }
        // The places of gates, guards and ranks hold one digit, those of numbers no third one.
        String[] tooLong = {"gate 01", "guard 01", "duty 01@0=0", "duty 0@000=0", "duty 0@0=00", "free 00@0", "free 0@000",
            "leave 00 0-1", "leave 0 000-1", "leave 0 0-001", "fill 000", "food 001", "pass 001"};
        for (String text : tooLong) {
            check.is(ARGUMENT, () -> run(roster("1", "1"), text));
        }
    }

    private static void errorPositions() {
        aboutTerms("Its error position is the index of the first character that cannot continue a well-formed text,");
        wrongAt("", 0);
        wrongAt(";", 0);
        wrongAt("\0", 0);
        wrongAt("gate 3\0", 6);
        wrongAt("gate \0", 5);
        wrongAt("gate 3;", 7);
        wrongAt("gate 3;;", 7);
        wrongAt("gate 3\uffff", 6);
        wrongAt("pass 9\0", 6);
        wrongAt("pass 99\0", 7);
        wrongAt("pass 9/", 6);
        wrongAt("pass 9:", 6);
        wrongAt("gate /", 5);
        wrongAt("gate :", 5);
        String eight = "pass 1;pass 1;pass 1;pass 1;pass 1;pass 1;pass 1;pass 1";
        wrongAt(eight + ";", 56);
        wrongAt(eight + ";p", 57);
        wrongAt(eight + ";pass", 60);
        wrongAt(eight + ";past", 59);
        wrongAt(eight + ";;;;;", 56);
        wrongAt(eight + "000", 56);
        wrongAt(eight + " ", 55);
        // What a command would do is not asked before the text is well formed.
        wrongAt("gate 0;gate", 11);
        wrongAt("fill 99;fill x", 13);
    }

    /** For each command: its text, and where each shorter and each spoilt text goes wrong. */
    private static void errorPositionsOfEachCommand() {
        String[] commands = {"gate 1", "guard 1", "duty 0@12=0", "free 0@12", "leave 0 12-13", "fill 12", "food 12",
            "pass 12"};
        for (String command : commands) {
            for (int length = 1; length < command.length(); length++) {
                String part = command.substring(0, length);
                if (!part.matches("(free .@|leave . ..-|fill |food |pass )\\d")) {
                    wrongAt(part, length);
                    wrongAt("fill 0;" + part, 7 + length);
                }
                wrongAt(part + "#" + command.substring(length), length);
                wrongAt(part + "\0", length);
            }
            wrongAt(command + "1", command.length());
            wrongAt(command + "x", command.length());
        }
        wrongAt("leave 0 1-", 10);
        wrongAt("leave 0 1", 9);
        wrongAt("leave 0 1 ", 9);
        wrongAt("duty 0@1", 8);
        wrongAt("duty 0@1@", 8);
        // The commands that begin alike part at their second letter.
        wrongAt("fx", 1);
        wrongAt("ga", 2);
        wrongAt("gx", 1);
        wrongAt("gua ", 3);
        wrongAt("gat\0", 3);
        wrongAt("frll", 2);
        wrongAt("fiod", 2);
        wrongAt("foee", 2);
    }

    private static void wrongAt(String text, int position) {
        GuardRoster x = roster("11", "11");
        check.is(ARGUMENT, () -> run(x, text));
        check.is(position, x::errorPosition);
        check.is(NO_ELEMENT, x::failedCommand);
    }

    private static void keywords() {
        aboutTerms("Keywords are compared letter by letter.");
        String[] keywords = {"gate", "guard", "duty", "free", "leave", "fill", "food", "pass"};
        for (String keyword : keywords) {
            for (int letter = 0; letter < keyword.length(); letter++) {
                String big = keyword.substring(0, letter) + Character.toUpperCase(keyword.charAt(letter))
                        + keyword.substring(letter + 1);
                wrongAt(big + " 1", letter);
            }
        }
    }

    private static Supplier<GuardRoster> oneOfEach() {
        return made("15", "59", y -> y.assign(0, 2, 0), y -> y.assign(1, 0, 1), y -> y.grantLeave(0, 10, 12));
    }

    private static void changes() {
        aboutTerms("A successful call of addGate, addGuard, assign, remove, exchange, grantLeave, endLeave, fillSlot,");
        Call[] changes = {y -> y.addGate(9), y -> y.addGuard(9), y -> y.assign(0, 27, 1), y -> y.remove(0, 2),
            y -> y.exchange(0, 2, 1, 0), y -> y.grantLeave(1, 1, 1), y -> y.endLeave(0, 10), y -> y.fillSlot(27),
            y -> y.addRations(50), y -> y.passSlots(28), y -> run(y, "pass 9"), y -> run(y, "gate 1;guard 1;fill 0")};
        undoneOneByOne(changes);
    }

    private static void changesThatAlterNothing() {
        Call[] changes = {y -> y.fillSlot(1), y -> y.grantLeave(0, 10, 12), y -> run(y, "fill 1"),
            y -> run(y, "leave 0 11-11"), y -> run(y, "free 0@2;duty 0@2=0")};
        undoneOneByOne(changes);
        for (Call change : changes) {
            GuardRoster x = oneOfEach().get();
            change.on(x);
            check.same(picture(oneOfEach().get()), picture(x));
        }
    }

    private static void undoneOneByOne(Call[] changes) {
        for (Call change : changes) {
            GuardRoster x = oneOfEach().get();
            check.is(7, x::undoCount);
            change.on(x);
            check.is(8, x::undoCount);
            check.is(7, x::undo);
            check.same(state(oneOfEach().get()), state(x));
        }
    }

    private static void noChanges() {
        Call[] others = {GuardRoster::gateCount, y -> y.neededRank(0), y -> y.faints(0), y -> y.canAssign(0, 0, 0),
            y -> y.guardAt(0, 2), y -> y.gateOf(0, 2), y -> y.dutiesOf(0), y -> y.openGates(0), GuardRoster::openPlaces,
            GuardRoster::openPlacesBySlots, y -> y.mostDuties(0), y -> y.mostDutiesBySets(0), y -> y.nextDuty(0),
            y -> y.longestRest(0), y -> y.guardByDuties(0), y -> y.isOnLeave(0, 10), y -> y.leaveSlots(0),
            GuardRoster::missingRations, GuardRoster::meanDuties, GuardRoster::coveredFraction, y -> y.writeSlot(0),
            y -> y.writeGuard(0), GuardRoster::isConsistent, y -> y.feed('g')};
        GuardRoster asked = oneOfEach().get();
        for (Call other : others) {
            other.on(asked);
            check.is(7, asked::undoCount);
        }
        check.same(state(oneOfEach().get()), state(asked));
        GuardRoster x = oneOfEach().get();
        check.is(2, x::save);
        check.is(7, x::undoCount);
    }

    private static void latestChanges() {
        aboutTerms("At most the latest 8 changes that are not undone can be undone.");
        GuardRoster x = new GuardRoster();
        for (int change = 1; change <= 9; change++) {
            x.addRations(change);
        }
        check.is(8, x::undoCount);
        check.is(7, x::undo);
        check.is(6, x::undo);
        check.is(20 + 28, x::rations);
        // Changes that are made after an undo stand where the undone ones stood.
        x.addRations(10);
        x.addRations(11);
        check.is(8, x::undoCount);
        x.addRations(12);
        check.is(8, x::undoCount);
        int[] left = {69, 58, 48, 41, 35, 30, 26, 23};
        for (int i = 0; i < 8; i++) {
            check.is(7 - i, x::undo);
            check.is(left[i], x::rations);
        }
        check.is(STATE, x::undo);
        check.is(23, x::rations);
        // Not even a change that was undone comes back.
        x.addRations(1);
        check.is(1, x::undoCount);
        check.is(0, x::undo);
        check.is(23, x::rations);
    }

    private static void leftAside() {
        aboutTerms("The input buffer, the output, the error position, the failed command and the latest refusal are affected");
        Supplier<GuardRoster> made = made("95", "59", GuardRoster::save, y -> check.is(REFUSED, () -> y.assign(0, 0, 0)),
                y -> check.is(REFUSED, () -> run(y, "food 1;food 0")), y -> check.is(ARGUMENT, () -> run(y, "gx")),
                y -> y.assign(0, 27, 1), y -> y.writeGuard(1), y -> feedAll(y, "food 1"));
        String due = aside(made.get());
        Step[] steps = {GuardRoster::undo, GuardRoster::save, GuardRoster::restore};
        for (Step step : steps) {
            GuardRoster x = made.get();
            step.on(x);
            check.same(due, aside(x));
            GuardRoster y = made.get();
            step.on(y);
            check.is(1, y::execute);
            check.is(21, y::rations);
        }
    }

    private static void exceptionsChangeNothing() {
        aboutTerms("A call that throws an exception changes nothing, unless its description says otherwise.");
        Supplier<GuardRoster> full = () -> {
            GuardRoster x = BoundariesOfRations.full();
            x.save();
            x.passSlots(27);
            x.writeSlot(27);
            return x;
        };
        changesNothing(STATE, full, y -> y.addGate(1));
        changesNothing(STATE, full, y -> y.addGuard(1));
        changesNothing(STATE, full, y -> y.assign(0, 26, 0));
        changesNothing(STATE, full, y -> y.remove(0, 26));
        changesNothing(STATE, full, y -> y.exchange(0, 26, 0, 27));
        changesNothing(STATE, full, y -> y.fillSlot(26));
        changesNothing(STATE, full, y -> y.grantLeave(0, 26, 27));
        changesNothing(NO_ELEMENT, full, y -> y.endLeave(0, 27));
        changesNothing(STATE, full, y -> y.passSlots(2));
        changesNothing(ARGUMENT, full, y -> y.addRations(0));
        refuses(full, y -> y.assign(4, 27, 0), GuardRoster.PLACE_TAKEN, 9);
        refuses(full, y -> y.grantLeave(9, 27, 27), GuardRoster.BUSY, 4);
    }

    private static void firstConditionDecides() {
        aboutTerms("If several conditions for exceptions hold, the one that is listed first decides.");
        Supplier<GuardRoster> late = made("91111", "1999999999", y -> y.assign(0, 20, 1), y -> y.assign(1, 5, 0),
                y -> y.passSlots(10));
        changesNothing(ARGUMENT, late, y -> y.addGate(10));
        changesNothing(ARGUMENT, late, y -> y.addGuard(0));
        changesNothing(INDEX, late, y -> y.assign(5, 5, 0));
        changesNothing(INDEX, late, y -> y.assign(0, -1, 0));
        changesNothing(INDEX, late, y -> y.assign(0, 5, 10));
        changesNothing(STATE, late, y -> y.assign(1, 5, 0));
        changesNothing(STATE, late, y -> y.assign(0, 9, 0));
        changesNothing(INDEX, late, y -> y.canAssign(0, -1, 0));
        changesNothing(INDEX, late, y -> y.remove(5, 5));
        changesNothing(INDEX, late, y -> y.remove(0, -1));
        changesNothing(STATE, late, y -> y.remove(0, 9));
        changesNothing(INDEX, late, y -> y.exchange(0, -1, 0, -1));
        changesNothing(INDEX, late, y -> y.exchange(0, 20, 5, 5));
        changesNothing(ARGUMENT, late, y -> y.exchange(1, 5, 1, 5));
        changesNothing(ARGUMENT, late, y -> y.exchange(2, 25, 2, 25));
        changesNothing(STATE, late, y -> y.exchange(0, 9, 0, 21));
        changesNothing(STATE, late, y -> y.exchange(0, 20, 1, 5));
        changesNothing(INDEX, late, y -> y.fillSlot(-1));
        changesNothing(INDEX, late, y -> y.guardAt(5, 0));
        changesNothing(INDEX, late, y -> y.gateOf(10, 0));
        changesNothing(INDEX, late, y -> y.nextDuty(10));
        changesNothing(INDEX, late, y -> y.grantLeave(10, 5, 4));
        changesNothing(ARGUMENT, late, y -> y.grantLeave(0, 5, 4));
        changesNothing(ARGUMENT, late, y -> y.grantLeave(0, -1, 5));
        changesNothing(STATE, late, y -> y.grantLeave(0, 5, 6));
        changesNothing(STATE, late, y -> y.grantLeave(1, 9, 20));
        changesNothing(INDEX, late, y -> y.endLeave(10, 0));
        changesNothing(ARGUMENT, made("", "", y -> y.addRations(50), y -> y.addRations(29)), y -> y.addRations(51));
        changesNothing(ARGUMENT, late, y -> y.passSlots(29));
    }

    private static void constants() {
        aboutTerms("PLACE_TAKEN = 1: Reason for a refusal");
        check.is(1, () -> GuardRoster.PLACE_TAKEN);
        aboutTerms("RANK_TOO_LOW = 2: Reason for a refusal");
        check.is(2, () -> GuardRoster.RANK_TOO_LOW);
        aboutTerms("ON_LEAVE = 3: Reason for a refusal");
        check.is(3, () -> GuardRoster.ON_LEAVE);
        aboutTerms("BUSY = 4: Reason for a refusal");
        check.is(4, () -> GuardRoster.BUSY);
        aboutTerms("NO_REST_BEFORE = 5: Reason for a refusal");
        check.is(5, () -> GuardRoster.NO_REST_BEFORE);
        aboutTerms("NO_REST_AFTER = 6: Reason for a refusal");
        check.is(6, () -> GuardRoster.NO_REST_AFTER);
    }
}
