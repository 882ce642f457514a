import java.io.IOException;
import java.util.ArrayList;
import java.util.List;

/** Each sentence of the document that names an edge, by a test of its own; and that none was left out. */
public final class EdgesTest {
    private static final String[] HEADINGS = {"Stands.", "Turns.", "Conflicts.", "Refusals.", "Costs.", "Assigning.",
        "Repairs.", "Delays.", "Text.", "History.", "Exceptions.", "More precisely."};
    /** By promise, the sentences that only say what a call is, which argument is which, or that it answers. */
    private static final String[][] WITHOUT_EDGE = {
        {"3", "- `kind`: the kind", "- `size`: the size"},
        {"4", "- `stand`: the one stand", "- `other`: the other stand"},
        {"5", "- `stand`: the number of the stand", "- `isOpen`: whether it is open then"},
        {"6", "- `buffer`: the buffer"},
        {"7", "Returns a number of a stand.", "- `stand`: the number of the stand", "Returns the number."},
        {"8", "- `stand`: the number of the stand"},
        {"9", "Returns from a minute on how long a stand is free.", "- `stand`: the number of the stand"},
        {"10", "- `size`: the size of the aircraft", "- `arrival`: the arrival", "- `departure`: the departure",
            "- `weight`: the weight"},
        {"11", "Returns a number of a turn.", "- `turn`: the number of the turn", "Returns the number."},
        {"12", "Returns a number of a stay.", "- `turn`: the number of the turn", "Returns the number."},
        {"13", "- `turn`: the number of the turn", "- `stand`: the number of the stand"},
        {"14", "Returns why a stay could not be placed on a stand.", "- `turn`: the number of the turn",
            "- `stand`: the number of the stand"},
        {"15", "- `turn`: the number of the turn", "Returns the set of stands."},
        {"16", "- `turn`: the number of the turn", "Returns the stand."},
        {"17", "- `turn`: the number of the turn"},
        {"19", "- `turn`: the number of the turn", "- `minute`: the minute of the tow"},
        {"20", "- `turn`: the number of the turn"},
        {"21", "Delays a turn.", "- `turn`: the number of the turn"},
        {"22", "Assigns all."},
        {"23", "- `turn`: the number of the turn", "- `minute`: the minute of the tow"},
        {"25", "Returns the number."},
        {"26", "Returns a move of the first repair.", "Returns the number."},
        {"28", "Returns the number."},
        {"29", "Returns an account.", "Returns the account."},
        {"30", "Returns the sum."},
        {"32", "Returns the mean."},
        {"33", "Appends a character to the input."}};

    public static void main(String[] args) throws IOException {
        Edges edges = new Edges();
        EdgesOfTerms.run(edges);
        EdgesOfStands.run(edges);
        EdgesOfTurns.run(edges);
        EdgesOfPlaces.run(edges);
        EdgesOfRepairs.run(edges);
        EdgesOfAccounts.run(edges);
        EdgesOfTexts.run(edges);
        EdgesOfHistory.run(edges);
        List<String> document = Sentences.ofDocument();
        edges.compareWith(document, withoutEdge(document));
        edges.end("EdgesTest");
    }

    private static List<String> withoutEdge(List<String> document) {
        List<String> sentences = new ArrayList<>();
        for (String heading : HEADINGS) {
            sentences.add("Terms: " + heading);
        }
        for (String[] ofPromise : WITHOUT_EDGE) {
            for (int index = 1; index < ofPromise.length; index++) {
                sentences.add("Promise " + ofPromise[0] + ": " + ofPromise[index]);
            }
        }
        for (String sentence : document) {
            // What the interface says ahead of calls is a comment; what is not promised can't be tested.
            if (sentence.startsWith("Terms: Ahead of the calls ") || sentence.startsWith("Not promised: ")
                    || sentence.startsWith("What it is: An assigner of aircraft ")) {
                sentences.add(sentence);
            }
        }
        return sentences;
    }
}
