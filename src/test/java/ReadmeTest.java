import java.io.IOException;
import java.lang.reflect.Method;
import java.net.URL;
import java.net.URLClassLoader;
import java.nio.file.Files;
import java.nio.file.Path;
import java.util.ArrayList;
import java.util.List;
import java.util.Set;
import java.util.TreeSet;
import java.util.regex.Matcher;
import java.util.regex.Pattern;
import java.util.stream.Stream;
import javax.tools.JavaCompiler;
import javax.tools.ToolProvider;

/** The calls that README.md shows answer as it says they do, and its tables have every call and test. */
public final class ReadmeTest {
    private static final Due due = new Due("ReadmeTest");
    private static final Path README = Path.of(System.getProperty("readme"));
    private static final Pattern BLOCK = Pattern.compile("(?ms)^```java\\n(.*?)^```$");
    // A call, whether its answer is kept under a name, the answer that is due, and words about it.
    private static final Pattern CALL = Pattern.compile("(?:(int|long) (\\w+) = )?(.+?); *// (.+?)(?:: .+)?");
    private static final Set<String> WITHOUT_ANSWER = Set.of("SumForms x = new SumForms();", "}", "");

    public static void main(String[] args) throws Exception {
        String readme = Files.readString(README);
        List<String> blocks = all(BLOCK, readme);
        due.holds("README.md has examples", !blocks.isEmpty());
        everyCallIsShown(String.join("", blocks));
        tableOfCalls(readme);
        for (int i = 0; i < blocks.size(); i++) {
            compare("README.md, example " + (i + 1) + ": ", blocks.get(i));
        }
        tableOfTests(readme);
        due.end();
    }

    private static List<String> all(Pattern pattern, String text) {
        return pattern.matcher(text).results().map(found -> found.group(1)).toList();
    }

    private static List<Method> calls() {
        return Stream.of(SumForms.class.getMethods())
                .filter(method -> method.getDeclaringClass() == SumForms.class).toList();
    }

    private static void everyCallIsShown(String examples) {
        for (Method call : calls()) {
            due.holds(call.getName() + " is shown in README.md",
                    Pattern.compile("\\bx\\." + call.getName() + "\\(").matcher(examples).find());
        }
    }

    private static void tableOfCalls(String readme) {
        Set<String> told = new TreeSet<>();
        for (String row : all(Pattern.compile("(?m)^\\| `(\\w+\\(.*?\\))` \\|"), readme)) {
            String parameters = row.substring(row.indexOf('(') + 1, row.length() - 1);
            told.add(row.substring(0, row.indexOf('(')) + " with "
                    + (parameters.isEmpty() ? 0 : parameters.split(", ").length));
        }
        Set<String> there = new TreeSet<>();
        for (Method call : calls()) {
            there.add(call.getName() + " with " + call.getParameterCount());
        }
        due.holds("README.md's table " + told + " has the calls " + there, told.equals(there));
    }

    private static void compare(String at, String block) throws Exception {
        Path folder = Files.createTempDirectory("readme");
        try {
            if (compiled(folder, sourceOf(at, block))) {
                for (Object[] told : answers(folder)) {
                    due.is(at + told[0], (Long) told[1], (Long) told[2]);
                }
            } else {
                due.holds(at + "compiles", false);
            }
        } finally {
            remove(folder);
        }
    }

    private static String sourceOf(String at, String block) {
        StringBuilder source = new StringBuilder("public final class Example {\n"
                + "public static java.util.List<Object[]> answers() {\n"
                + "java.util.List<Object[]> told = new java.util.ArrayList<>();\n");
        for (String line : block.lines().map(String::strip).toList()) {
            Matcher call = CALL.matcher(line);
            if (call.matches()) {
                source.append(comparing(call));
            } else {
                due.holds(at + "an answer stands behind " + line,
                        WITHOUT_ANSWER.contains(line) || line.matches("for \\(.*\\) \\{"));
                source.append(line).append('\n');
            }
        }
        return source.append("return told;\n}\n}\n").toString();
    }

    private static String comparing(Matcher call) {
        String kept = call.group(2);
        String made = call.group(3);
        String name = '"' + made.replace("\\", "\\\\").replace("\"", "\\\"") + '"';
        String first = kept == null ? "" : call.group(1) + " " + kept + " = " + made + ";\n";
        return first + "told.add(new Object[] {" + name + ", (long) (" + (kept == null ? made : kept)
                + "), (long) (" + call.group(4) + ")});\n";
    }

    private static boolean compiled(Path folder, String source) throws IOException {
        JavaCompiler compiler = ToolProvider.getSystemJavaCompiler();
        Path file = Files.writeString(folder.resolve("Example.java"), source);
        return compiler != null && compiler.run(null, System.out, System.out, "--release", "17", "-cp",
                System.getProperty("java.class.path"), "-d", folder.toString(), file.toString()) == 0;
    }

    private static List<Object[]> answers(Path folder) throws Exception {
        List<Object[]> all = new ArrayList<>();
        try (URLClassLoader loader = new URLClassLoader(new URL[] {folder.toUri().toURL()})) {
            Object told = loader.loadClass("Example").getMethod("answers").invoke(null);
            for (Object one : (List<?>) told) {
                all.add((Object[]) one);
            }
        }
        return all;
    }

    private static void remove(Path folder) throws IOException {
        try (Stream<Path> files = Files.list(folder)) {
            for (Path file : files.toList()) {
                Files.delete(file);
            }
        }
        Files.delete(folder);
    }

    private static void tableOfTests(String readme) throws IOException {
        Set<String> told = new TreeSet<>(all(Pattern.compile("(?m)^\\| `(\\w+)` \\|"), readme));
        Set<String> there = new TreeSet<>();
        try (Stream<Path> files = Files.list(README.resolveSibling("src/test/java"))) {
            for (Path file : files.toList()) {
                String name = file.getFileName().toString();
                if (name.endsWith("Test.java")) {
                    there.add(name.substring(0, name.length() - ".java".length()));
                }
            }
        }
        due.holds("README.md's table " + told + " has the tests " + there, told.equals(there));
    }
}
