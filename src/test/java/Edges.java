import java.io.IOException;
import java.nio.file.Files;
import java.nio.file.Path;
import java.util.ArrayList;
import java.util.LinkedHashMap;
import java.util.List;
import java.util.Map;

/**
 * Tests that stand for one sentence of the document each: a sentence is quoted with the heading
 * it stands under, and what is asked behind it, up to the next quote, is its test.
 */
final class Edges {
    private static final Path DOCUMENT = Path.of("../shared/DOC.md");

    private final Due due;
    private final List<String[]> quotes = new ArrayList<>();
    private String sentence = "";
    private int askedOfSentence = 1;

    Edges(String test) {
        this.due = new Due(test);
    }

    void sentence(String heading, String words) {
        closeSentence();
        sentence = heading + ", \"" + words + "\"";
        quotes.add(new String[] {heading, words});
        askedOfSentence = 0;
    }

    void is(String call, long got, long want) {
        askedOfSentence++;
        due.is(sentence + ": " + call, got, want);
    }

    void is(String call, boolean got, boolean want) {
        is(call, got ? 1 : 0, want ? 1 : 0);
    }

    private void closeSentence() {
        if (askedOfSentence == 0) {
            due.is(sentence + ": is anything asked of it", false, true);
        }
    }

    void finish() throws IOException {
        closeSentence();
        tellWhatTheDocumentSaysOtherwise();
        long sentences = quotes.stream().map(quote -> quote[0] + quote[1]).distinct().count();
        System.out.println(sentences + " sentences, each with a test of its own");
        due.finish();
    }

    /** Told, but no fault of the class: the document is not this project's to keep. */
    private void tellWhatTheDocumentSaysOtherwise() throws IOException {
        if (!Files.isReadable(DOCUMENT)) {
            return;
        }
        Map<String, String> open = sections(Files.readString(DOCUMENT));
        Map<String, String> whole = new LinkedHashMap<>(open);
        for (String[] quote : quotes) {
            String heading = quote[0];
            String words = quote[1];
            if (!whole.getOrDefault(heading, "").contains(words)) {
                System.out.println("not in the document, " + heading + ": " + words);
            }
            open.computeIfPresent(heading, (h, text) -> text.replace(words, "|"));
        }
        // What it is tells no boundary case but one, which is quoted.
        open.remove("What it is");
        open.forEach(Edges::tellLeft);
    }

    private static void tellLeft(String heading, String left) {
        for (String piece : left.split("[|]")) {
            if (piece.matches(".*[A-Za-z0-9].*")) {
                System.out.println("of " + heading + ", no test quotes: " + piece.strip());
            }
        }
    }

    /** The text of each heading on one line, without the signatures that FaceTest looks at. */
    private static Map<String, String> sections(String document) {
        Map<String, String> sections = new LinkedHashMap<>();
        for (String part : document.split("(?m)^## ")) {
            String heading = part.split("[:\n]")[0];
            if (heading.equals("What it is") || heading.equals("Terms") || heading.startsWith("Promise")) {
                String text = part.substring(part.indexOf('\n')).replaceAll("(?m)^```(text)?$", " ").replaceAll("`[^`]*`:", " ");
                text = text.replaceAll("\\s+", " ").replaceAll("Ahead of the calls .*", "").replaceAll("(I+[.]) ", " ");
                sections.put(heading, text);
            }
        }
        return sections;
    }
}
