import java.io.IOException;
import java.nio.file.Files;
import java.nio.file.Path;

/** Compares answers with those that are due; a test's main method ends with {@link #end}. */
final class Due {
    private final String document = read(Path.of("../shared/DOC.md"));
    private String words = "";
    private int sentences = 0;
    private int compared = 0;
    private int wrong = 0;

    private static String read(Path path) {
        try {
            return Files.readString(path);
        } catch (IOException e) {
            throw new IllegalStateException("no document at " + path, e);
        }
    }

    /** Names the words of the document that the next answers are about; they have to stand there. */
    void sentence(String newWords) {
        words = newWords;
        sentences++;
        if (!document.contains(newWords)) {
            wrong++;
            System.out.println("the document does not say: " + newWords);
        }
    }

    void due(String call, long got, long want) {
        compared++;
        if (got != want) {
            wrong++;
            System.out.println(call + " answered " + got + ", due is " + want
                + (words.isEmpty() ? "" : " (\"" + words + "\")"));
        }
    }

    int compared() {
        return compared;
    }

    void is(String what, boolean holds) {
        due(what, holds ? 1 : 0, 1);
    }

    void end() {
        System.out.println(sentences + " sentences, " + compared + " answers compared, " + wrong + " not as due");
        if (wrong != 0 || compared == 0) {
            System.exit(1);
        }
    }
}
