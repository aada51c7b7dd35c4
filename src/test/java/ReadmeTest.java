import java.io.IOException;
import java.nio.file.Files;
import java.nio.file.Path;
import java.util.ArrayList;
import java.util.List;
import java.util.regex.Matcher;
import java.util.regex.Pattern;

/** The example of README.md: the same calls in the same order, with the answers that it tells. */
public final class ReadmeTest {
    private static final Due DUE = new Due();
    private static final Pattern CALL = Pattern.compile("(x\\.\\w+\\(.*\\)); +// (-?\\d+)(:.*)?");
    private static final List<String> CALLS = new ArrayList<>();
    private static final List<Integer> ANSWERS = new ArrayList<>();

    public static void main(String[] args) throws IOException {
        example();
        List<String> block = block(Files.readString(Path.of("README.md")));
        DUE.is("makes an object first", block.get(0).equals("RiverCampaign x = new RiverCampaign();"));
        DUE.due("calls", block.size() - 1, CALLS.size());
        for (int i = 0; i < Math.min(block.size() - 1, CALLS.size()); i++) {
            Matcher line = CALL.matcher(block.get(i + 1));
            DUE.is("a call with its answer: " + block.get(i + 1), line.matches());
            if (line.matches()) {
                DUE.is(line.group(1) + ", not " + CALLS.get(i), line.group(1).equals(CALLS.get(i)));
                DUE.due(CALLS.get(i), ANSWERS.get(i), Integer.parseInt(line.group(2)));
            }
        }
        DUE.end();
    }

    private static List<String> block(String page) {
        int start = page.indexOf("```java\n") + 8;
        return List.of(page.substring(start, page.indexOf("```", start)).split("\n"));
    }

    private static void did(String call, int answer) {
        CALLS.add(call);
        ANSWERS.add(answer);
    }

    private static void example() {
        RiverCampaign x = new RiverCampaign();
        did("x.ground(29, 1)", x.ground(29, 1));
        did("x.river(28, 0, true)", x.river(28, 0, true));
        did("x.fort(30, 1)", x.fort(30, 1));
        did("x.place(0, 6, 27)", x.place(0, 6, 27));
        did("x.place(1, 4, 30)", x.place(1, 4, 30));
        did("x.cost(0, 29)", x.cost(0, 29));
        did("x.move(0, 21)", x.move(0, 21));
        did("x.would(0, 30, 0)", x.would(0, 30, 0));
        did("x.would(0, 30, 1)", x.would(0, 30, 1));
        did("x.attack(0, 30)", x.attack(0, 30));
        did("x.unit(0, 1)", x.unit(0, 1));
        did("x.attack(0, 30)", x.attack(0, 30));
        did("x.endTurn()", x.endTurn());
        did("x.type('1')", x.type('1'));
        did("x.type('!')", x.type('!'));
        did("x.type('d')", x.type('d'));
        did("x.type('3')", x.type('3'));
        did("x.perform()", x.perform());
        did("x.unit(1, 1)", x.unit(1, 1));
        did("x.undo()", x.undo());
        did("x.unit(1, 1)", x.unit(1, 1));
        did("x.keep()", x.keep());
        did("x.endTurn()", x.endTurn());
        did("x.restore()", x.restore());
    }
}
