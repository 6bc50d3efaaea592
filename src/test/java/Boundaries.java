/** Tests that are each about one sentence of the document. */
abstract class Boundaries extends RosterCalls {
    static final Sentences document = new Sentences(check);

    static void about(int promise, String quote) {
        document.about("Promise " + promise, quote);
    }

    static void aboutTerms(String quote) {
        document.about("Terms", quote);
    }
}
