import java.util.ArrayList;
import java.util.LinkedHashSet;
import java.util.List;
import java.util.Set;
import java.util.concurrent.Callable;

/** Checks under the sentences of the document that they test; tells which sentences have no check. */
final class Sentences {
    private final Check check;
    private final Set<String> document;
    private final Set<String> tested = new LinkedHashSet<>();
    private String sentence = "";

    Sentences(Check check, Set<String> document) {
        this.check = check;
        this.document = document;
    }

    /** The checks that follow test a sentence; the place is "Description" or the number of a promise. */
    void says(String place, String words) {
        sentence = place + ": " + words;
        check.due("the document says \"" + sentence + "\"", true, () -> document.contains(sentence));
    }

    void due(String what, Object want, Callable<?> call) {
        tested.add(sentence);
        check.due("\"" + sentence + "\" | " + what, want, call);
    }

    void allAreTested() {
        List<String> untested = new ArrayList<>(document);
        untested.removeAll(tested);
        check.due("sentences without a check", List.of(), () -> untested);
    }
}
