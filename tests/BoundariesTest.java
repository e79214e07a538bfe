import java.io.IOException;
import java.lang.reflect.Method;
import java.nio.file.Files;
import java.nio.file.Path;
import java.util.HashMap;
import java.util.LinkedHashMap;
import java.util.List;
import java.util.Map;
import java.util.Set;

/** Each sentence of the document that names a boundary has a test of its own, and each test quotes one. */
public final class BoundariesTest {
    private static final Class<?>[] TESTS = {FeltBoundaries.class, BallBoundaries.class, ShotBoundaries.class,
        TurnBoundaries.class, TextBoundaries.class, HistoryBoundaries.class, ToldBoundaries.class};

    /** What names no boundary of its own. */
    private static final List<String> WITHOUT =
        List.of("Billiards on a felt.*", "Errors are reported.*", "Ahead of the calls.*", "Returns the number", "");

    public static void main(String[] args) throws IOException {
        Map<String, StringBuilder> parts = parts();
        Map<String, boolean[]> quoted = new HashMap<>();
        parts.forEach((name, text) -> quoted.put(name, new boolean[text.length()]));
        for (Class<?> tests : TESTS) {
            for (Method test : Sentences.in(tests)) {
                quote(parts, quoted, test);
            }
        }
        parts.forEach((name, text) -> eachHasATest(name, text.toString(), quoted.get(name)));
        Check.end("BoundariesTest");
    }

    /** The document by its headings: what it is, the terms by their own, and each promise. */
    private static Map<String, StringBuilder> parts() throws IOException {
        Map<String, StringBuilder> parts = new LinkedHashMap<>();
        String name = "";
        for (String line : Files.readAllLines(Path.of("../shared/DOC.md"))) {
            if (line.startsWith("## ")) {
                name = line.substring(3).replaceFirst(":.*", "");
            } else if (line.matches("[A-Z ]+")) {
                name = line;
            } else {
                parts.computeIfAbsent(name, none -> new StringBuilder()).append(line).append('\n');
            }
        }
        parts.keySet().removeAll(Set.of("", "The public face", "Not promised"));
        return parts;
    }

    private static void quote(Map<String, StringBuilder> parts, Map<String, boolean[]> quoted, Method test) {
        Sentence sentence = test.getAnnotation(Sentence.class);
        StringBuilder part = parts.getOrDefault(sentence.of(), new StringBuilder());
        int from = part.indexOf(sentence.says());
        Check.holds(test.getName() + " quotes " + sentence.of() + ": \"" + sentence.says() + "\"", from >= 0);
        boolean wholeLine = sentence.says().matches("Returns .*; .*");
        for (int i = 0; i < sentence.says().length() && from >= 0 && !wholeLine; i++) {
            quoted.get(sentence.of())[from + i] = true;
        }
    }

    private static void eachHasATest(String part, String text, boolean[] quoted) {
        int from = 0;
        for (String line : text.split("\n", -1)) {
            int at = from;
            for (String sentence : line.split(cut(line))) {
                at = text.indexOf(sentence, at);
                boolean has = false;
                for (int i = 0; i < sentence.length(); i++) {
                    has |= quoted[at + i];
                }
                Check.holds(part + ": \"" + sentence + "\" has a test of its own",
                    has || WITHOUT.stream().anyMatch(sentence::matches));
                at += sentence.length();
            }
            from += line.length() + 1;
        }
    }

    /** Where a line is cut: returns at each of them, lists of what is told at each number. */
    private static String cut(String line) {
        if (line.startsWith("- `what`")) {
            return ", (?=\\d+ (and \\d+ |to \\d+ )?for )";
        }
        return line.startsWith("Returns ") ? "; " : "; (?![0-9f])|(?<=[.)]) (?=[A-Z(`-])";
    }
}
