import java.io.IOException;
import java.nio.file.Files;
import java.nio.file.Path;

/**
 * Checks by the sentence of the document that they belong to. A sentence that does not stand in its section of
 * the document, or under which nothing is looked at, is wrong too.
 */
final class Sentences {
    private static final Path DOCUMENT = Path.of("../shared/DOC.md");

    private final Check check;
    private final String document;
    private String sentence;
    private int lookedBefore;
    private int wrongBefore;

    Sentences(String name) {
        check = new Check(name);
        document = read();
    }

    private static String read() {
        try {
            return Files.readString(DOCUMENT);
        } catch (IOException missing) {
            System.out.println("the sentences are not looked up: there is no " + DOCUMENT);
            return null;
        }
    }

    /** What is looked at from here on belongs to these words of the section with this heading. */
    void says(String heading, String words) {
        finish();
        sentence = heading + ", \"" + words + "\"";
        lookedBefore = check.looked();
        wrongBefore = check.wrong();
        if (document != null && !section(heading).contains(words)) {
            check.wrong(sentence + " does not stand in the document");
        }
    }

    private String section(String heading) {
        String text = document + "\n## ";
        int start = text.indexOf("\n## " + heading);
        return start < 0 ? "" : text.substring(start, text.indexOf("\n## ", start + 1));
    }

    void due(String call, long got, long want) {
        check.due(sentence + ": " + call, got, want);
    }

    void holds(String claim, boolean itDoes) {
        check.holds(sentence + ": " + claim, itDoes);
    }

    private void finish() {
        if (sentence == null) {
            return;
        }
        int looked = check.looked() - lookedBefore;
        if (looked == 0) {
            check.wrong(sentence + " has no test");
        }
        System.out.println(sentence + ": " + looked + " looked at, " + (check.wrong() - wrongBefore) + " wrong");
    }

    void end() {
        finish();
        check.end();
    }
}
