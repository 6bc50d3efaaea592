/** Each sentence of the document that names a boundary case, with a test of its own; none may be left out. */
public final class GuardRosterBoundariesTest {
    public static void main(String[] args) {
        BoundariesOfTerms.all();
        BoundariesOfGates.all();
        BoundariesOfDuties.all();
        BoundariesOfCounts.all();
        BoundariesOfLeave.all();
        BoundariesOfRations.all();
        BoundariesOfOutput.all();
        BoundariesOfCommands.all();
        Boundaries.document.allTold();
        Boundaries.check.end();
    }
}
