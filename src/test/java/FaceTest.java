import java.lang.reflect.Constructor;
import java.lang.reflect.Executable;
import java.lang.reflect.Field;
import java.lang.reflect.Member;
import java.lang.reflect.Method;
import java.lang.reflect.Modifier;
import java.nio.file.Files;
import java.nio.file.Path;
import java.util.ArrayList;
import java.util.Arrays;
import java.util.HashMap;
import java.util.List;
import java.util.Map;
import java.util.Set;
import java.util.TreeSet;
import java.util.regex.Matcher;
import java.util.regex.Pattern;

/** The public face is the document's and no more, and the source keeps to LANGUAGE.md. */
public final class FaceTest {
    private static final Due due = new Due("FaceTest");

    private static final Set<String> FACE = new TreeSet<>(List.of(
            "int form(int, long, long, long, boolean, boolean)", "int forget()", "int feed(int, long)",
            "int cut(int)", "int octet(int)", "int count(int)", "long sum(int, int, int)",
            "long joined(int, long, long, long)", "long zeros(int, long, long)",
            "long changed(int, long, long, int)", "long tail(int, long, long)", "int factors(int)",
            "long factor(int, int, int)", "long order(int)", "int distance(int, int)",
            "long added(int, int, int)", "long addedJoined(int, long, long, long)"));

    public static void main(String[] args) throws Exception {
        members();
        nested();
        String source = Files.readString(Path.of(System.getProperty("source")));
        String code = source.replaceAll("(?s)/\\*.*?\\*/", "").replaceAll("//[^\n]*", "");
        words(code);
        objectsMade(code);
        headings(source);
        room();
        due.end();
    }

    private static void members() {
        due.holds("the class is public and final",
                SumForms.class.getModifiers() == (Modifier.PUBLIC | Modifier.FINAL));
        due.is("BAD", SumForms.BAD, -1);
        due.is("FULL", SumForms.FULL, -2);
        Set<String> seen = new TreeSet<>();
        for (Method method : SumForms.class.getDeclaredMethods()) {
            if (visible(method)) {
                due.holds(method + " is public and not static", method.getModifiers() == Modifier.PUBLIC);
                seen.add(method.getReturnType() + " " + method.getName() + parameters(method));
            }
        }
        due.holds("methods are " + FACE + ", seen: " + seen, seen.equals(FACE));
        List<String> fields = new ArrayList<>();
        for (Field field : SumForms.class.getDeclaredFields()) {
            if (visible(field)) {
                fields.add(field.getName());
            }
        }
        due.holds("visible fields: " + fields, fields.equals(List.of("BAD", "FULL")));
        Constructor<?>[] constructors = SumForms.class.getDeclaredConstructors();
        due.is("constructors", constructors.length, 1);
        due.holds("the constructor is public", constructors[0].getModifiers() == Modifier.PUBLIC);
    }

    private static boolean visible(Member member) {
        return !Modifier.isPrivate(member.getModifiers()) && !member.isSynthetic();
    }

    private static String parameters(Executable call) {
        return Arrays.toString(call.getParameterTypes()).replace('[', '(').replace(']', ')');
    }

    private static void nested() {
        Set<String> names = new TreeSet<>();
        for (String call : FACE) {
            names.add(call.substring(call.indexOf(' ') + 1, call.indexOf('(')));
        }
        List<Class<?>> all = new ArrayList<>(List.of(SumForms.class.getDeclaredClasses()));
        for (Class<?> inside : all) {
            due.holds(inside + " is static", Modifier.isStatic(inside.getModifiers()));
            due.holds(inside + " is not public", !Modifier.isPublic(inside.getModifiers()));
        }
        due.holds("at most twelve classes", all.size() < 12);
        all.add(SumForms.class);
        for (Class<?> one : all) {
            int fields = 0;
            for (Field field : one.getDeclaredFields()) {
                fields += Modifier.isStatic(field.getModifiers()) ? 0 : 1;
                due.holds(field + ": static is final", !Modifier.isStatic(field.getModifiers())
                        || Modifier.isFinal(field.getModifiers()));
            }
            due.holds(one + " has at most twenty fields", fields <= 20);
            for (Method method : one.getDeclaredMethods()) {
                due.holds(method + " has at most seven parameters", method.getParameterCount() <= 7);
                due.holds(method + " is no lambda", !method.getName().startsWith("lambda$"));
                due.holds(method + " bears no public name",
                        visible(method) || !names.contains(method.getName()));
            }
        }
    }

    private static void words(String code) {
        for (String word : List.of("throw", "throws", "try", "catch", "synchronized", "assert", "package",
                "import", "native", "volatile", "Random", "Thread", "System", "\\w+Exact", "equals",
                "hashCode", "toString", "float", "double")) {
            due.holds("no word " + word, !Pattern.compile("\\b" + word + "\\b").matcher(code).find());
        }
        due.holds("no method reference", !code.contains("::"));
        due.holds("no lambda", !code.contains("->"));
        due.holds("no static initialiser", !Pattern.compile("\\bstatic\\s*\\{").matcher(code).find());
    }

    /** What a call makes would be counted for every call of a run: fields and the constructor make all. */
    private static void objectsMade(String code) {
        for (String line : code.lines().toList()) {
            if (Pattern.compile("\\bnew\\b").matcher(line).find()) {
                due.holds("made once for an object: " + line.strip(),
                        line.strip().startsWith("private final ") || line.contains("forms[i] = new Form();"));
            }
        }
    }

    private static void headings(String source) {
        Map<String, List<String>> ahead = Map.of(
                "", List.of("form", "forget", "feed", "cut", "octet", "count"),
                "sums", List.of("sum", "joined", "zeros", "changed", "tail"),
                "what a form is worth", List.of("factors", "factor", "order", "distance"),
                "adding sums", List.of("added", "addedJoined"));
        Map<String, List<String>> seen = new HashMap<>();
        String heading = "";
        for (String line : source.lines().map(String::strip).toList()) {
            Matcher call = Pattern.compile("public (?:int|long) (\\w+)\\(.*").matcher(line);
            if (line.startsWith("// ---- ")) {
                heading = line.substring("// ---- ".length());
            } else if (call.matches()) {
                seen.computeIfAbsent(heading, none -> new ArrayList<>()).add(call.group(1));
            }
        }
        due.holds("the calls behind each heading: " + seen, seen.equals(ahead));
    }

    /** As README.md says: all rows are made with the object, and a run of calls makes no more of them. */
    private static void room() throws Exception {
        SumForms x = new SumForms();
        Room before = new Room();
        before.lookAt(x);
        due.is("objects of a new one", before.objects(), 46);
        due.holds("elements of a new one: some 1,600: " + before.elements(),
                before.elements() > 1550 && before.elements() < 1650);
        for (int round = 0; round < 25; round++) {
            x.form(3 + round, 1 + 2 * round % 8, 1, 2, true, false);
            x.feed(8, round);
            x.sum(0, 0, 8);
            x.joined(0, 1, 2, 1L << 60);
            x.zeros(0, 1, 1L << 60);
            x.changed(0, 1, 1L << 60, 255);
            x.tail(5, 1, 2);
            x.factors(0);
            x.factor(0, 0, 0);
            x.order(0);
            x.distance(0, 200);
            x.added(0, 0, 8);
            x.addedJoined(0, 1, 1, 1L << 60);
            x.octet(0);
            x.count(0);
            x.cut(0);
            if (round % 9 == 8) {
                x.forget();
            }
        }
        Room after = new Room();
        after.lookAt(x);
        due.is("objects behind a run", after.objects(), before.objects());
        due.is("elements behind a run", after.elements(), before.elements());
    }
}
