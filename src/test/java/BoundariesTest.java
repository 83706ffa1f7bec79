import java.util.List;

/** Each sentence of the document that names a boundary case, with a test of its own that quotes it. */
public final class BoundariesTest {
    // They name no boundary: they say what the sentences around them, which are quoted, say in full.
    private static final List<String> PLAIN = List.of(
        "Error codes.",
        "Text of a field.",
        "A station can have an old offset.",
        "Checks the text buffer.",
        "Returns a number.",
        "Carries out a round.",
        "Carries out a run.",
        "Adds an observation.",
        "Sets the random state.",
        "Appends a byte to the text buffer.",
        "Returns a property of a station.",
        "Sets the offset of a station.",
        "Shifts the net of a station.",
        "Undoes the last act that is remembered.",
        "Returns a property of a station over a cycle.",
        "Computes how long a message takes.",
        "Judges a sequence of statements, each of which is written as four decimal digits.",
        "Returns the share of a station.",
        "Brings back what a slot keeps.",
        "- `station`: the station",
        "- `i`: a station",
        "- `j`: another station",
        "- `from`: the first station",
        "- `to`: the second station",
        "- `upper`: true for the numerator, false for the denominator");

    private BoundariesTest() { }

    public static void main(String[] arguments) {
        ErrorBoundaries.run();
        FieldBoundaries.run();
        ActBoundaries.run();
        QueryBoundaries.run();
        ChanceBoundaries.run();
        noneIsForgotten();
        Due.end("BoundariesTest");
    }

    private static void noneIsForgotten() {
        noneIsForgottenOf("Description");
        for (int promise = 1; promise <= 29; promise++) {
            noneIsForgottenOf(Document.heading(promise));
        }
    }

    private static void noneIsForgottenOf(String heading) {
        List<String> sentences = Document.sentences(heading);
        Due.holds(heading + " has sentences", !sentences.isEmpty());
        for (String sentence : sentences) {
            boolean held = PLAIN.contains(sentence) || Trial.isQuoted(heading, sentence);
            Due.holds(heading + ": a test quotes '" + sentence + "'", held);
        }
    }
}
