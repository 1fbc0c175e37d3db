import java.io.IOException;
import java.net.URL;
import java.net.URLClassLoader;
import java.nio.file.Files;
import java.nio.file.Path;
import java.util.List;
import java.util.Set;
import java.util.TreeSet;
import java.util.regex.Matcher;
import java.util.regex.Pattern;
import java.util.stream.Stream;
import javax.tools.ToolProvider;

/** That README.md is true of the class and of the tests. Run from the project's folder. */
public final class ReadmeTest {
    private static final Due due = new Due("ReadmeTest");
    private static final Pattern ANSWERED = Pattern.compile("(?:int (\\w+) = )?(.*);\\s+// (-?\\d+)(?:: .*)?");
    private static int answers = 0;

    public static void main(String[] args) throws IOException, ReflectiveOperationException {
        String readme = Files.readString(Path.of("README.md"));
        example(readme);
        calls(readme, Files.readString(Path.of("../shared/DOC.md")));
        tests(readme);
        due.end();
    }

    /** Called by the example, as compiled. */
    public static void answered(String call, long got, long want) {
        answers++;
        due.same("README: " + call, got, want);
    }

    private static void example(String readme) throws IOException, ReflectiveOperationException {
        Matcher block = Pattern.compile("(?s)```java\n(.*?)```").matcher(readme);
        due.holds("README has an example", block.find());
        StringBuilder program = new StringBuilder("public final class ReadmeExample { public static void run() {\n");
        int told = 0;
        for (String line : block.group(1).lines().toList()) {
            Matcher answered = ANSWERED.matcher(line);
            told += answered.matches() ? 1 : 0;
            program.append(answered.matches() ? asking(answered) : line).append('\n');
        }
        runProgram(program.append("} }\n").toString());
        due.same("README: the answers told are asked", answers, told);
        due.holds("README tells answers", told > 20);
    }

    private static String asking(Matcher answered) {
        String name = answered.group(1);
        String call = answered.group(2);
        String held = name == null ? call : name;
        String ahead = name == null ? "" : "int " + name + " = " + call + "; ";
        return ahead + "ReadmeTest.answered(\"" + call + "\", " + held + ", " + answered.group(3) + "L);";
    }

    private static void runProgram(String program) throws IOException, ReflectiveOperationException {
        Path folder = Files.createTempDirectory("readme");
        Path source = folder.resolve("ReadmeExample.java");
        Path compiled = folder.resolve("ReadmeExample.class");
        try {
            Files.writeString(source, program);
            String classes = System.getProperty("java.class.path");
            int failed = ToolProvider.getSystemJavaCompiler().run(null, null, null, "-cp", classes, "-d", folder.toString(), source.toString());
            due.same("README: the example compiles", failed, 0);
            try (URLClassLoader loader = new URLClassLoader(new URL[] {folder.toUri().toURL()})) {
                loader.loadClass("ReadmeExample").getMethod("run").invoke(null);
            }
        } finally {
            Files.deleteIfExists(source);
            Files.deleteIfExists(compiled);
            Files.delete(folder);
        }
    }

    /** Each call of the document's face is in the table of calls, with its parameters' names. */
    private static void calls(String readme, String document) {
        Set<String> face = new TreeSet<>();
        Matcher matcher = Pattern.compile("public (?:int|long) (\\w+)\\((.*)\\);").matcher(document);
        while (matcher.find()) {
            face.add(matcher.group(1) + "(" + matcher.group(2).replace("int ", "") + ")");
        }
        due.same("the face's calls", face.size(), 39);
        String table = readme.substring(readme.indexOf("### The calls"), readme.indexOf("### The answers"));
        Set<String> named = namesIn(table, "`(\\w+\\([^)]*\\))`");
        due.holds("README names the calls " + face + ", and not " + named, named.equals(face));
    }

    /** Each class under src/test/java is named, and none that isn't there. */
    private static void tests(String readme) throws IOException {
        Set<String> there = new TreeSet<>();
        try (Stream<Path> files = Files.list(Path.of("src/test/java"))) {
            List<Path> all = files.toList();
            all.forEach(file -> there.add(file.getFileName().toString().replace(".java", "")));
        }
        String part = readme.substring(readme.indexOf("The tests under `src/test/java`:"));
        Set<String> named = namesIn(part, "`([A-Z][a-z]\\w*)`");
        due.holds("README names the tests " + there + ", and not " + named, named.equals(there));
        Set<String> told = namesIn(part, "`(promise\\w+)`");
        for (String test : told) {
            due.holds("README: there is a test " + test, Edges.of(Edges4FrontsTest.class).stream().anyMatch(one -> one.getName().equals(test)));
        }
    }

    private static Set<String> namesIn(String text, String pattern) {
        Set<String> names = new TreeSet<>();
        Matcher matcher = Pattern.compile(pattern).matcher(text);
        while (matcher.find()) {
            names.add(matcher.group(1));
        }
        return names;
    }
}
