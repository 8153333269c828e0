import java.io.IOException;
import java.io.StringWriter;
import java.lang.reflect.Method;
import java.lang.reflect.Modifier;
import java.net.URL;
import java.net.URLClassLoader;
import java.nio.file.Files;
import java.nio.file.Path;
import java.util.ArrayList;
import java.util.List;
import java.util.Map;
import java.util.Set;
import java.util.TreeSet;
import java.util.regex.Matcher;
import java.util.regex.Pattern;
import javax.tools.JavaCompiler;
import javax.tools.StandardJavaFileManager;
import javax.tools.ToolProvider;

/** Compiles and runs the Java that README.md shows: each call gives the answer that stands behind it. */
public final class ReadmeTest {
    // as the document tells them, so that a changed constant of the class is seen
    private static final Map<String, Long> NAMED =
            Map.of("NONE", -1L, "UNKNOWN", -101L, "OUTSIDE", -102L, "STATE", -103L, "FULL", -104L);
    private static final String[] GROUPS = {
        "The wall", "What is done", "What would be", "What is seen", "What is told of all", "What a refusal is",
    };
    private static final Pattern ANSWERED =
            Pattern.compile("(\\S.*\\.(\\w+)\\(.*\\)); +// (-?\\d+|NONE|UNKNOWN|OUTSIDE|STATE|FULL)(: .*)?");
    private static final Pattern CALLS = Pattern.compile("(wall|new MossWall\\(\\))\\.\\w+\\(.*");

    private static final Due due = new Due("ReadmeTest");
    private static final List<String> program = new ArrayList<>();
    private static final List<String> calls = new ArrayList<>();
    private static final List<Long> wanted = new ArrayList<>();
    private static final Set<String> shown = new TreeSet<>();
    private static final Set<String> named = new TreeSet<>();
    private static final Set<String> groupsWithCalls = new TreeSet<>();

    private ReadmeTest() {
    }

    public static void main(String[] args) throws Exception {
        take(Files.readAllLines(Path.of(args.length > 0 ? args[0] : ".", "README.md")));
        everyGroupIsShown();
        everyCallIsShown();
        answersAreAsShown();
        due.end();
    }

    private static void take(List<String> page) {
        String group = "";
        boolean java = false;
        for (String line : page) {
            if (line.startsWith("```")) {
                java = line.equals("```java");
            } else if (java) {
                takeJava(line, group);
            } else {
                group = line.startsWith("#") ? line.replaceFirst("#+ ", "") : group;
                due.holds("no call with its numbers stands in prose, where nothing runs it: " + line,
                        !line.matches(".*\\b[a-z]+\\(-?\\d.*"));
            }
        }
    }

    private static void takeJava(String line, String group) {
        Matcher answered = ANSWERED.matcher(line);
        if (!answered.matches()) {
            due.holds("it tells its answer: " + line, !CALLS.matcher(line).matches() && !line.contains("//"));
            program.add(line);
            return;
        }
        String answer = answered.group(3);
        calls.add(answered.group(1));
        wanted.add(NAMED.containsKey(answer) ? NAMED.get(answer) : Long.valueOf(answer));
        shown.add(answered.group(2));
        named.add(answer);
        groupsWithCalls.add(group);
        program.add("answers.add((long) " + answered.group(1) + ");");
    }

    private static void everyGroupIsShown() {
        for (String group : GROUPS) {
            due.holds("it shows calls: " + group, groupsWithCalls.contains(group));
        }
    }

    private static void everyCallIsShown() {
        for (Method method : MossWall.class.getDeclaredMethods()) {
            if (Modifier.isPublic(method.getModifiers())) {
                due.holds("it is shown: " + method.getName(), shown.contains(method.getName()));
            }
        }
        for (String name : NAMED.keySet()) {
            due.holds("it is shown: " + name, named.contains(name));
        }
    }

    private static void answersAreAsShown() throws Exception {
        List<?> answers = run();
        due.is("how many answers", wanted.size(), answers.size());
        for (int row = 0; row < Math.min(wanted.size(), answers.size()); row++) {
            due.is(calls.get(row), wanted.get(row), (Long) answers.get(row));
        }
    }

    private static List<?> run() throws Exception {
        Path folder = Files.createTempDirectory("readme");
        Path source = folder.resolve("Shown.java");
        Path made = folder.resolve("Shown.class");
        try {
            Files.writeString(source, asClass());
            if (!compiles(source, folder)) {
                return List.of();
            }
            try (URLClassLoader loader = new URLClassLoader(new URL[] {folder.toUri().toURL()})) {
                return (List<?>) loader.loadClass("Shown").getMethod("answers").invoke(null);
            }
        } finally {
            Files.deleteIfExists(made);
            Files.deleteIfExists(source);
            Files.deleteIfExists(folder);
        }
    }

    private static boolean compiles(Path source, Path folder) throws IOException {
        JavaCompiler compiler = ToolProvider.getSystemJavaCompiler();
        StringWriter told = new StringWriter();
        List<String> options = List.of("-cp", System.getProperty("java.class.path"), "-d", folder.toString());
        try (StandardJavaFileManager files = compiler.getStandardFileManager(null, null, null)) {
            boolean done = compiler.getTask(told, files, null, options, null, files.getJavaFileObjects(source)).call();
            due.holds("the Java that is shown compiles: " + told, done);
            return done;
        }
    }

    private static String asClass() {
        return "public final class Shown {\n"
                + "public static java.util.List<Long> answers() {\n"
                + "java.util.List<Long> answers = new java.util.ArrayList<>();\n"
                + String.join("\n", program)
                + "\nreturn answers;\n}\n}\n";
    }
}
