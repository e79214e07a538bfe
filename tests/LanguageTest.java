import java.nio.file.Files;
import java.nio.file.Path;
import java.util.List;
import java.util.Set;
import java.util.regex.Matcher;
import java.util.regex.Pattern;

/** The rules of LANGUAGE.md as far as the text of the class shows them. */
public final class LanguageTest {
    private static final Set<String> LIBRARY =
        Set.of("Math.floorMod", "Arrays.fill", "System.arraycopy", "java.util");
    private static final String[] NOT_USED = {
        "->", "::", "throw", "catch", "finally", "synchronized", "assert", "instanceof", "double", "static {",
        "Integer", "List", "String", "Object", "native", "volatile", "transient", "package", "@"};

    public static void main(String[] args) throws Exception {
        List<String> lines = Files.readAllLines(Path.of("src/main/java/HexBilliards.java"));
        StringBuilder code = new StringBuilder();
        for (String line : lines) {
            code.append(line.replaceFirst("//.*", "").replaceFirst("^ *(/\\*\\*| \\*).*", "")).append('\n');
        }
        words(code.toString());
        library(code.toString());
        newObjects(code.toString());
        methods(lines);
        Check.end("LanguageTest");
    }

    private static void words(String code) {
        for (String word : NOT_USED) {
            Check.holds("the class does without " + word, !code.contains(word));
        }
        for (char c : code.toCharArray()) {
            if (c != '\n' && (c < 32 || c > 126)) {
                Check.holds("rule 4: signs are plain, not " + (int) c, false);
            }
        }
    }

    private static void library(String code) {
        Matcher calls = Pattern.compile("\\b(Math|Arrays|System|java)\\.\\w+").matcher(code);
        while (calls.find()) {
            Check.holds("rule 4: " + calls.group() + " is in the library", LIBRARY.contains(calls.group()));
        }
    }

    /** The room of a run: nothing is made by a call, all rows are made with the object. */
    private static void newObjects(String code) {
        Matcher made = Pattern.compile("(?m)^.*\\bnew .*$").matcher(code);
        while (made.find()) {
            String line = made.group().trim();
            Check.holds("rule 12: made by a constructor: " + line,
                line.startsWith("private final ") || line.equals("states[i] = new State();"));
        }
    }

    private static void methods(List<String> lines) {
        Pattern head = Pattern.compile("^( {4}| {8})[A-Za-z].*\\((.*)\\) \\{$");
        int from = -1;
        String indent = "";
        for (int i = 0; i < lines.size(); i++) {
            Matcher m = head.matcher(lines.get(i));
            if (m.matches() && from < 0 && !m.group(2).contains("=") && !lines.get(i).contains(" for (")) {
                from = i;
                indent = m.group(1);
                Check.holds("rule 11: parameters of " + lines.get(i).trim(), m.group(2).split(",").length <= 7);
            } else if (from >= 0 && lines.get(i).equals(indent + "}")) {
                Check.holds("rule 11: length of " + lines.get(from).trim(), i - from < 60);
                from = -1;
            }
        }
        Check.holds("every method has its end", from < 0);
    }
}
