import java.util.concurrent.Callable;

/** Long mixed runs, the same ones each time: every answer of the class is compared with the model's. */
public final class GuardRosterModelTest {
    private static final int RUNS = 6000;
    private static final int CALLS = 512;

    private final Check check;
    private final GuardRoster x = new GuardRoster();
    private final Model m = new Model();
    private long seed;
    private int callsLeft = CALLS;
    /** How often time passes and how wild the arguments are differ from run to run. */
    private final boolean hurries;
    private final int wildness;

    private GuardRosterModelTest(Check check, int run) {
        this.check = check;
        this.seed = run * 7919L + 17;
        this.hurries = run % 3 == 0;
        this.wildness = run % 4 == 0 ? 6 : 40;
    }

    public static void main(String[] args) {
        Check check = new Check();
        for (int run = 0; run < RUNS && check.wrongs() < 20; run++) {
            new GuardRosterModelTest(check, run).run(run);
        }
        check.end();
    }

    private void run(int run) {
        int gates = 1 + pick(5);
        for (int i = 0; i < gates; i++) {
            int rank = 1 + pick(9) * pick(10) / 9;
            both("addGate", () -> x.addGate(rank), () -> m.addGate(rank));
        }
        int guards = 1 + pick(10);
        for (int i = 0; i < guards; i++) {
            int rank = 1 + pick(9);
            both("addGuard", () -> x.addGuard(rank), () -> m.addGuard(rank));
        }
        while (callsLeft > 80) {
            check.at("run " + run + ", call " + (CALLS - callsLeft));
            step();
        }
        check.at("run " + run + ", end");
        for (int guard = 0; guard < 10; guard++) {
            int g = guard;
            both("dutiesOf", () -> x.dutiesOf(g), () -> m.dutiesOf(g));
            both("faints", () -> x.faints(g), () -> m.faints(g));
        }
        both("isConsistent", x::isConsistent, () -> true);
    }

    private int pick(int below) {
        seed = seed * 6364136223846793005L + 1442695040888963407L;
        return (int) ((seed >>> 33) % below);
    }

    /** Mostly from 0 to below - 1, at times just beside it or far off. */
    private int near(int below) {
        if (pick(wildness) != 0) {
            return pick(Math.max(1, below));
        }
        int[] beside = {-1, below, Integer.MAX_VALUE, Integer.MIN_VALUE, below + 1, -pick(100)};
        return beside[pick(beside.length)];
    }

    private int gate() {
        return near(m.gateCount());
    }

    private int guard() {
        return near(m.guardCount());
    }

    private int slot() {
        return pick(8) == 0 ? near(28) : near(Math.min(28, m.currentSlot() + 6));
    }

    private void both(String call, Callable<?> mine, Callable<?> models) {
        callsLeft--;
        String due = Check.answer(models);
        String answered = Check.answer(mine);
        if (!due.equals(answered)) {
            check.same(call + " " + due, call + " " + answered);
        }
    }

    private void step() {
        switch (pick(10)) {
            case 0, 1, 2 -> changeDuties();
            case 3 -> changeOthers();
            case 4, 5, 6 -> lookAtDuties();
            case 7 -> lookAtOthers();
            case 8 -> write();
            default -> command();
        }
    }

    private void changeDuties() {
        int a = gate();
        int s = slot();
        int g = guard();
        int b = gate();
        int t = pick(3) == 0 ? s : slot();
        switch (pick(8)) {
            case 0, 1, 2 -> both("assign " + a + " " + s + " " + g, () -> x.assign(a, s, g), () -> m.assign(a, s, g));
            case 3 -> both("remove " + a + " " + s, () -> x.remove(a, s), () -> m.remove(a, s));
            case 4, 5 -> both("exchange " + a + " " + s + " " + b + " " + t, () -> x.exchange(a, s, b, t),
                    () -> m.exchange(a, s, b, t));
            default -> both("fillSlot " + s, () -> x.fillSlot(s), () -> m.fillSlot(s));
        }
        both("refusalReason", x::refusalReason, m::refusalReason);
        both("refusalDetail", x::refusalDetail, m::refusalDetail);
    }

    private void changeOthers() {
        int g = guard();
        int s = slot();
        int t = pick(3) == 0 ? slot() : s + pick(4);
        int n = near(hurries ? 12 : 3);
        int food = near(20);
        int rank = near(10);
        switch (pick(13)) {
            case 0, 1 -> both("grantLeave " + g + " " + s + " " + t, () -> x.grantLeave(g, s, t),
                    () -> m.grantLeave(g, s, t));
            case 2, 3 -> both("endLeave " + g + " " + s, () -> x.endLeave(g, s), () -> m.endLeave(g, s));
            case 4 -> both("addRations " + food, () -> x.addRations(food), () -> m.addRations(food));
            case 5, 6 -> both("passSlots " + n, () -> x.passSlots(n), () -> m.passSlots(n));
            case 7, 8 -> both("undo", x::undo, m::undo);
            case 9 -> both("save", x::save, m::save);
            case 10 -> {
                if (pick(3) == 0) {
                    both("restore", x::restore, m::restore);
                }
            }
            case 11 -> both("addGate " + rank, () -> x.addGate(rank), () -> m.addGate(rank));
            default -> both("addGuard " + rank, () -> x.addGuard(rank), () -> m.addGuard(rank));
        }
        both("undoCount", x::undoCount, m::undoCount);
    }

    private void lookAtDuties() {
        int a = gate();
        int s = slot();
        int g = guard();
        switch (pick(14)) {
            case 0 -> both("canAssign", () -> x.canAssign(a, s, g), () -> m.canAssign(a, s, g));
            case 1 -> both("guardAt", () -> x.guardAt(a, s), () -> m.guardAt(a, s));
            case 2 -> both("gateOf", () -> x.gateOf(g, s), () -> m.gateOf(g, s));
            case 3 -> both("dutiesOf", () -> x.dutiesOf(g), () -> m.dutiesOf(g));
            case 4 -> both("dutyCount", x::dutyCount, m::dutyCount);
            case 5 -> both("openGates", () -> x.openGates(s), () -> m.openGates(s));
            case 6 -> both("openPlaces", x::openPlaces, m::openPlaces);
            case 7 -> both("openPlacesBySlots", x::openPlacesBySlots, m::openPlaces);
            case 8 -> both("mostDuties", () -> x.mostDuties(s), () -> m.mostDuties(s));
            case 9 -> both("mostDutiesBySets", () -> x.mostDutiesBySets(s), () -> m.mostDuties(s));
            case 10 -> both("nextDuty", () -> x.nextDuty(g), () -> m.nextDuty(g));
            case 11 -> both("longestRest", () -> x.longestRest(g), () -> m.longestRest(g));
            case 12 -> both("guardByDuties", () -> x.guardByDuties(g), () -> m.guardByDuties(g));
            default -> both("isConsistent", x::isConsistent, () -> true);
        }
    }

    private void lookAtOthers() {
        int a = gate();
        int s = slot();
        int g = guard();
        switch (pick(14)) {
            case 0 -> both("gateCount", x::gateCount, m::gateCount);
            case 1 -> both("guardCount", x::guardCount, m::guardCount);
            case 2 -> both("neededRank", () -> x.neededRank(a), () -> m.neededRank(a));
            case 3 -> both("rank", () -> x.rank(g), () -> m.rank(g));
            case 4 -> both("faints", () -> x.faints(g), () -> m.faints(g));
            case 5 -> both("isOnLeave", () -> x.isOnLeave(g, s), () -> m.isOnLeave(g, s));
            case 6 -> both("leaveSlots", () -> x.leaveSlots(g), () -> m.leaveSlots(g));
            case 7 -> both("rations", x::rations, m::rations);
            case 8 -> both("currentSlot", x::currentSlot, m::currentSlot);
            case 9 -> both("missingRations", x::missingRations, m::missingRations);
            case 10 -> both("meanDuties", x::meanDuties, m::meanDuties);
            case 11 -> both("coveredFraction", x::coveredFraction, m::coveredFraction);
            case 12 -> both("errorPosition", x::errorPosition, m::errorPosition);
            default -> both("failedCommand", x::failedCommand, m::failedCommand);
        }
    }

    private void write() {
        int s = slot();
        int g = guard();
        if (pick(2) == 0) {
            both("writeSlot", () -> x.writeSlot(s), () -> m.writeSlot(s));
        } else {
            both("writeGuard", () -> x.writeGuard(g), () -> m.writeGuard(g));
        }
        for (int i = 0; i < 4; i++) {
            int index = pick(30) - 1;
            both("outputCharacter", () -> x.outputCharacter(index), () -> m.outputCharacter(index));
        }
    }

    private void command() {
        StringBuilder text = new StringBuilder(aCommand());
        while (pick(2) == 0) {
            text.append(';').append(aCommand());
        }
        if (pick(4) == 0) {
            spoil(text);
        }
        for (int i = 0; i < text.length() && callsLeft > 85; i++) {
            char character = text.charAt(i);
            both("feed", () -> x.feed(character), () -> m.feed(character));
        }
        both("execute " + text, x::execute, m::execute);
        both("errorPosition", x::errorPosition, m::errorPosition);
        both("failedCommand", x::failedCommand, m::failedCommand);
        both("refusalReason", x::refusalReason, m::refusalReason);
        both("refusalDetail", x::refusalDetail, m::refusalDetail);
        both("undoCount", x::undoCount, m::undoCount);
    }

    private String aCommand() {
        int slot = pick(Math.min(30, m.currentSlot() + 8));
        int gate = pick(Math.max(1, m.gateCount()));
        int guard = pick(Math.max(1, m.guardCount()));
        String number = slot < 10 && pick(3) == 0 ? "0" + slot : "" + slot;
        return switch (pick(12)) {
            case 0 -> "gate " + pick(10);
            case 1 -> "guard " + pick(10);
            case 2, 3, 4 -> "duty " + gate + "@" + number + "=" + guard;
            case 5 -> "free " + gate + "@" + number;
            case 6 -> "leave " + guard + " " + number + "-" + (slot + pick(3));
            case 7, 8, 9 -> "fill " + number;
            case 10 -> "food " + pick(20);
            default -> "pass " + pick(hurries ? 10 : 3);
        };
    }

    private void spoil(StringBuilder text) {
        int at = pick(text.length() + 1);
        String signs = "0123456789;@=- gatefudrilvnopsy\u0000\u00e9\uffff";
        char sign = signs.charAt(pick(signs.length()));
        switch (pick(3)) {
            case 0 -> text.insert(at, sign);
            case 1 -> text.setLength(at);
            default -> {
                if (at < text.length()) {
                    text.setCharAt(at, sign);
                }
            }
        }
    }
}
