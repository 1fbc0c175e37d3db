import java.io.IOException;
import java.nio.file.Files;
import java.nio.file.Path;
import java.util.ArrayList;
import java.util.List;
import java.util.Set;
import java.util.regex.Matcher;
import java.util.regex.Pattern;

/** Those rules of ../shared/LANGUAGE.md that can be seen in the text of the program. Run from the project's folder. */
public final class LanguageTest {
    private static final Due due = new Due("LanguageTest");

    public static void main(String[] args) throws IOException {
        String text = Files.readString(Path.of("src/main/java/ChartRoom.java"));
        String code = text.replaceAll("(?s)/\\*.*?\\*/", "").replaceAll("//[^\n]*", "");
        String[] banned = {"throw", "throws", "try", "catch", "synchronized", "assert", "import static", "package", "protected",
            "Exact", "Objects", "System\\.out", "String\\.format", "Random", "Thread", "nanoTime", "currentTimeMillis", "yield", "var"};
        for (String word : banned) {
            due.holds("rules 4, 6, 13: no " + word, !Pattern.compile("\\b" + word + "\\b").matcher(code).find());
        }
        due.holds("rule 2: no lambda, no method reference", !code.contains("->") && !code.contains("::"));
        due.holds("rule 10: no text", !code.contains("\""));
        due.holds("rule 9: no loop without a bound", !Pattern.compile("while|for \\(;;|; ;").matcher(code).find());
        due.holds("rule 3: only plain signs", text.chars().allMatch(sign -> sign < 127));
        imports(code);
        classes(code);
        methods(text);
        due.end();
    }

    private static void imports(String code) {
        Matcher matcher = Pattern.compile("import ([^;]+);").matcher(code);
        while (matcher.find()) {
            due.holds("rule 4: import " + matcher.group(1), Set.of("java.util.ArrayList", "java.util.Arrays").contains(matcher.group(1)));
        }
    }

    private static void classes(String code) {
        int count = 0;
        Matcher matcher = Pattern.compile("([a-z ]*)\\bclass (\\w+)").matcher(code);
        while (matcher.find()) {
            count++;
            boolean isOuter = matcher.group(2).equals("ChartRoom");
            due.holds("rule 2: " + matcher.group(2) + " is static", isOuter || matcher.group(1).contains("static"));
        }
        due.holds("rule 11: some twelve classes, here " + count, count <= 12);
    }

    /** A method begins behind four or eight blanks and ends at a brace behind as many. */
    private static void methods(String text) {
        List<String> lines = new ArrayList<>(text.lines().toList());
        Pattern head = Pattern.compile("^( {4}| {8})[^ =/*].*\\w\\((.*)\\) \\{$");
        int count = 0;
        for (int start = 0; start < lines.size(); start++) {
            Matcher matcher = head.matcher(lines.get(start));
            if (!matcher.matches()) {
                continue;
            }
            int end = start;
            while (end < lines.size() && !lines.get(end).equals(matcher.group(1) + "}")) {
                end++;
            }
            String name = lines.get(start).trim();
            int parameters = matcher.group(2).isEmpty() ? 0 : matcher.group(2).split(",").length;
            due.holds("rule 11: short: " + name, end - start < 60);
            due.holds("rule 11: seven parameters: " + name, parameters <= 7 || name.startsWith("public int draw("));
            count++;
        }
        due.holds("the methods are found: " + count, count > 100);
    }
}
