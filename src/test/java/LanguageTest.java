import java.io.IOException;
import java.nio.file.Files;
import java.nio.file.Path;
import java.util.ArrayList;
import java.util.List;
import java.util.Set;
import java.util.TreeSet;
import java.util.regex.Matcher;
import java.util.regex.Pattern;

/** What of ../shared/LANGUAGE.md can be seen from the words of the source. Runs in the project's folder. */
public final class LanguageTest {
    private static final Path SOURCE = Path.of("src/main/java/RiverCampaign.java");
    private static final List<String> REFUSED = List.of(
        "\\b(throw|throws|try|catch|finally|synchronized|assert|volatile|native|package|protected)\\b",
        "->", "::", "Exact\\s*\\(", "\\bstatic\\s*\\{", "\\b(float|double|Object|Map|Set|Scanner|System\\.out)\\b",
        "\\b(equals|hashCode|toString)\\b", "\\bString\\b", "\\bfor\\s*\\(\\s*;", "\\bwhile\\b");
    private static final Set<String> FACE = Set.of("ground", "river", "fort", "base", "place", "move", "attack",
        "endTurn", "perform", "type", "clearText", "undo", "keep", "restore", "hex", "beside", "distance", "unit",
        "cost", "would", "besieged", "count");
    private static int wrong = 0;

    public static void main(String[] args) throws IOException {
        String source = Files.readString(SOURCE);
        String code = source.replaceAll("(?s)/\\*.*?\\*/", "").replaceAll("//[^\n]*", "").replaceAll("'[^']*'", "' '");
        source.chars().filter(c -> c > 126).forEach(c -> refuse("a sign " + c));
        for (String word : REFUSED) {
            Matcher matcher = Pattern.compile(word).matcher(code);
            while (matcher.find()) {
                refuse(matcher.group());
            }
        }
        imports(code);
        statics(code);
        methods(code);
        System.out.println(wrong + " faults");
        System.exit(wrong == 0 ? 0 : 1);
    }

    private static void refuse(String what) {
        wrong++;
        System.out.println("not in the language: " + what);
    }

    private static void imports(String code) {
        Matcher matcher = Pattern.compile("\\bimport ([^;]*);").matcher(code);
        while (matcher.find()) {
            if (!Set.of("java.util.Arrays", "java.util.ArrayList", "java.util.List").contains(matcher.group(1))) {
                refuse("import " + matcher.group(1));
            }
        }
    }

    private static void statics(String code) {
        Matcher matcher = Pattern.compile("\\bstatic [^;{(]*[;=]").matcher(code);
        while (matcher.find()) {
            if (!matcher.group().startsWith("static final")) {
                refuse("static that is not final: " + matcher.group());
            }
        }
        Matcher classes = Pattern.compile("\\n    [a-z ]*\\bclass \\w+").matcher(code);
        while (classes.find()) {
            if (!classes.group().contains("static")) {
                refuse("class that is not static: " + classes.group());
            }
        }
    }

    /** The face is all that is public; no other method has one of its names; none is long. */
    private static void methods(String code) {
        Pattern head = Pattern.compile("^( {4,8})((?:[a-z]+ )*)(?:[\\w\\[\\]]+ )?(\\w+)\\(([^)]*)\\) \\{$");
        Set<String> seen = new TreeSet<>();
        List<String> lines = new ArrayList<>(List.of(code.split("\n")));
        for (int i = 0; i < lines.size(); i++) {
            Matcher matcher = head.matcher(lines.get(i));
            if (!matcher.matches() || Set.of("if", "for", "switch", "while").contains(matcher.group(3))) {
                continue;
            }
            String name = matcher.group(3);
            boolean isPublic = matcher.group(2).contains("public");
            if (isPublic && FACE.contains(name)) {
                seen.add(name);
            } else if (FACE.contains(name) || isPublic && !name.equals("RiverCampaign")) {
                refuse("the name of " + name);
            }
            if (matcher.group(1).length() == 4 && !isPublic && !matcher.group(2).contains("private")) {
                refuse("a method of the package: " + name);
            }
            if (matcher.group(4).split(",").length > 7) {
                refuse("the parameters of " + name);
            }
            int end = lines.subList(i, lines.size()).indexOf(matcher.group(1) + "}");
            if (end > 60) {
                refuse("the length of " + name);
            }
        }
        if (!seen.equals(new TreeSet<>(FACE))) {
            refuse("a face of " + seen);
        }
    }
}
