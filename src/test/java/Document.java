import java.io.IOException;
import java.nio.file.Files;
import java.nio.file.Path;
import java.util.LinkedHashSet;
import java.util.Set;
import java.util.regex.Matcher;
import java.util.regex.Pattern;

/** The sentences of ../shared/DOC.md, each behind its place: "What it is: ..", "Description: ..", "3: .." for promise 3. */
final class Document {
    private static final Pattern PROMISE = Pattern.compile("## Promise (\\d+):.*");
    private static final Set<String> LABELS = Set.of("Rooms.", "Steps.", "Texts of steps.", "Area.", "Tables.", "Tunnels.",
            "Goal rooms.", "Search.", "Bound.", "Commands.");

    private final Set<String> sentences = new LinkedHashSet<>();
    private String place = "";
    private String paragraph = "";

    static Set<String> sentences(Path file) throws IOException {
        Document document = new Document();
        for (String line : Files.readAllLines(file)) {
            document.take(line);
        }
        document.endParagraph();
        return document.sentences;
    }

    private void take(String line) {
        Matcher promise = PROMISE.matcher(line);
        if (line.startsWith("#")) {
            endParagraph();
            place = promise.matches() ? promise.group(1) : line.matches("## (What it is|Description)") ? line.substring(3) : "";
        } else if (line.isBlank() || line.startsWith("`") || line.startsWith("----")) {
            endParagraph();
        } else if (line.startsWith("  ") || line.startsWith("- ")) {
            endParagraph();
            paragraph = line.trim();
            endParagraph();
        } else {
            paragraph += " " + line.trim();
        }
    }

    private void endParagraph() {
        // An item that only names a parameter says nothing that could be broken.
        boolean isName = paragraph.startsWith("- ") && !paragraph.matches(".*[0-9].*|.*(true|whether).*");
        for (String sentence : paragraph.trim().split("(?<=\\.) (?=[A-Z])")) {
            if (!place.isEmpty() && !sentence.isEmpty() && !LABELS.contains(sentence) && !isName) {
                sentences.add(place + ": " + sentence);
            }
        }
        paragraph = "";
    }
}
