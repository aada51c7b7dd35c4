import java.io.IOException;
import java.nio.file.Files;
import java.nio.file.Path;

/**
 * Goes through the document from its first line to its last without a gap: each sentence, or part of one, is named
 * in its turn, and compared with answers ahead of the next one, or passed over for a reason.
 */
final class Walk {
    private final Due due = new Due();
    private final String document;
    private int place = 0;
    private String words = "";
    private int comparedAhead = 0;
    private boolean hasToBeTested = false;
    private int tested = 0;

    Walk(Path path) {
        try {
            document = withPlainSpaces(Files.readString(path));
        } catch (IOException e) {
            throw new IllegalStateException("no document at " + path, e);
        }
    }

    private static String withPlainSpaces(String text) {
        return text.strip().replaceAll("\\s+", " ");
    }

    /** The words stand next in the document; the answers that follow are about them. */
    void at(String newWords) {
        go(newWords);
        hasToBeTested = true;
        tested++;
    }

    /** The words stand next in the document, and there is nothing to be tested: a heading, or what it leaves free. */
    void over(String newWords) {
        go(newWords);
        hasToBeTested = false;
    }

    private void go(String newWords) {
        due.is("a test of: " + words, !hasToBeTested || due.compared() > comparedAhead);
        if (!document.startsWith(newWords, place)) {
            System.out.println("the document goes on: " + document.substring(place, Math.min(place + 100,
                document.length())) + "\nand not: " + newWords);
            System.exit(1);
        }
        place += newWords.length();
        if (place < document.length() && document.charAt(place) == ' ') {
            place++;
        }
        words = newWords;
        comparedAhead = due.compared();
    }

    void due(String call, long got, long want) {
        due.due(call + " (\"" + words + "\")", got, want);
    }

    void is(String what, boolean holds) {
        due(what, holds ? 1 : 0, 1);
    }

    void end() {
        due.is("a test of: " + words, !hasToBeTested || due.compared() > comparedAhead);
        due.is("the last line of the document", place == document.length());
        System.out.println(tested + " sentences or parts of one in the document's order");
        due.end();
    }
}
