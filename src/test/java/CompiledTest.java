import java.io.PrintWriter;
import java.io.StringWriter;
import java.lang.reflect.Field;
import java.lang.reflect.Modifier;
import java.util.ArrayList;
import java.util.List;
import java.util.Map;
import java.util.Set;
import java.util.TreeMap;
import java.util.TreeSet;
import java.util.regex.Matcher;
import java.util.regex.Pattern;
import java.util.spi.ToolProvider;

/** Those rules of ../shared/LANGUAGE.md that can be seen in the compiled classes of the program. */
public final class CompiledTest {
    private static final Due due = new Due("CompiledTest");
    private static final int DEEPEST = 8, MOST_FIELDS = 20;
    private static final Set<String> LIBRARY = Set.of("java/lang/Object.<init>", "java/lang/Math.abs", "java/lang/Math.max",
        "java/lang/Math.min", "java/lang/Math.floorDiv", "java/lang/Math.floorMod", "java/lang/Integer.bitCount",
        "java/lang/System.arraycopy", "\"[I\".clone", "java/util/Arrays.copyOf", "java/util/Arrays.copyOfRange", "java/util/Arrays.fill",
        "java/util/ArrayList.<init>", "java/util/ArrayList.add", "java/util/ArrayList.get", "java/util/ArrayList.set",
        "java/util/ArrayList.remove", "java/util/ArrayList.size", "java/util/ArrayList.isEmpty", "java/util/ArrayList.clear");
    private static final Pattern METHOD = Pattern.compile("  (?! ).*?([\\w$.]+)\\((.*)\\);");
    private static final Pattern CALL = Pattern.compile("// (?:Interface)?Method (?:([^.:]+)\\.)?\"?([\\w<>]+)\"?:(\\S+)");
    private static final Pattern MAKING = Pattern.compile("\\b(new|newarray|anewarray|multianewarray) |Method \\S*\\.(copyOf|copyOfRange|clone):");
    /** What these make is kept, and counted by the document's limits, or is a FORECAST for a text that is read. */
    private static final Set<String> MAKERS = Set.of("ChartRoom.post", "ChartRoom.wire", "ChartRoom.forecast", "ChartRoom$Pen.drawn");
    /** By method, as Class.name and what it takes: those that it calls. */
    private static final Map<String, Set<String>> CALLS = new TreeMap<>();
    /** Methods beside constructors that make objects or arrays, as Class.name. */
    private static final Set<String> MAKING_METHODS = new TreeSet<>();

    public static void main(String[] args) {
        List<Class<?>> all = new ArrayList<>(List.of(ChartRoom.class.getDeclaredClasses()));
        all.add(ChartRoom.class);
        for (Class<?> one : all) {
            String code = disassembled(one);
            due.holds("rule 6: nothing is thrown, caught or locked in " + one.getName(), !code.matches("(?s).*\\b(athrow|Exception table|monitorenter)\\b.*"));
            due.holds("rule 2: no lambda in " + one.getName(), !code.contains("invokedynamic"));
            due.holds("rule 2: " + one.getName() + " is static", one == ChartRoom.class || Modifier.isStatic(one.getModifiers()));
            readCalls(one.getName(), code);
            fields(one);
        }
        library();
        due.holds("rule 12: these make objects or arrays: " + MAKING_METHODS, MAKING_METHODS.equals(MAKERS));
        for (String method : CALLS.keySet()) {
            int depth = depthOf(method, new ArrayList<>());
            due.holds("rule 11: " + method + " goes " + depth + " deep", depth <= DEEPEST);
        }
        due.holds("the methods are found: " + CALLS.size(), CALLS.size() > 100);
        due.end();
    }

    private static String disassembled(Class<?> one) {
        StringWriter text = new StringWriter();
        PrintWriter out = new PrintWriter(text);
        ToolProvider javap = ToolProvider.findFirst("javap").orElseThrow();
        int failed = javap.run(out, out, "-p", "-c", "-s", "-cp", System.getProperty("java.class.path"), one.getName());
        due.same("javap " + one.getName(), failed, 0);
        return text.toString();
    }

    /** A method's head stands behind two blanks, what it takes on the next line, its calls below. */
    private static void readCalls(String name, String code) {
        String method = "";
        String head = "";
        for (String line : code.lines().toList()) {
            Matcher heads = METHOD.matcher(line);
            Matcher calls = CALL.matcher(line);
            if (heads.matches()) {
                boolean makes = heads.group(1).equals(name);
                head = name + "." + (makes ? "<init>" : heads.group(1));
            } else if (line.startsWith("    descriptor: ") && !head.isEmpty()) {
                method = head + line.substring("    descriptor: ".length());
                head = "";
                CALLS.put(method, new TreeSet<>());
            } else if (calls.find() && !method.isEmpty()) {
                String owner = calls.group(1) == null ? name : calls.group(1);
                CALLS.get(method).add(owner + "." + calls.group(2) + calls.group(3));
            }
            if (MAKING.matcher(line).find() && !method.contains("<init>")) MAKING_METHODS.add(method.replaceAll("\\(.*", ""));
        }
    }

    private static void library() {
        Set<String> used = new TreeSet<>();
        for (Set<String> called : CALLS.values()) {
            for (String one : called) {
                if (!one.startsWith("ChartRoom")) used.add(one.replaceAll("\\(.*", ""));
            }
        }
        for (String one : used) {
            due.holds("rule 4: " + one + " is of the library that is told", LIBRARY.contains(one));
        }
        due.holds("the library's functions are found", used.contains("java/util/ArrayList.get"));
    }

    private static int depthOf(String method, List<String> open) {
        due.holds("rule 8: " + method + " calls itself, by " + open, !open.contains(method));
        int deepest = 0;
        if (open.contains(method)) return deepest;
        open.add(method);
        for (String called : CALLS.getOrDefault(method, Set.of())) {
            deepest = Math.max(deepest, depthOf(called, open));
        }
        open.remove(method);
        return deepest + 1;
    }

    private static void fields(Class<?> one) {
        int count = 0;
        for (Field field : one.getDeclaredFields()) {
            boolean isStatic = Modifier.isStatic(field.getModifiers());
            count += isStatic ? 0 : 1;
            boolean isConstant = Modifier.isFinal(field.getModifiers()) && field.getType().isPrimitive();
            due.holds("rule 5: " + field + " is a constant", !isStatic || isConstant);
        }
        due.holds("rule 11: " + one.getName() + " has " + count + " fields", count <= MOST_FIELDS);
    }
}
