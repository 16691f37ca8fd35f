import java.io.IOException;
import java.lang.reflect.InvocationTargetException;
import java.lang.reflect.Method;
import java.lang.reflect.Modifier;
import java.net.URL;
import java.net.URLClassLoader;
import java.nio.file.Files;
import java.nio.file.Path;
import java.util.ArrayList;
import java.util.List;
import java.util.Set;
import java.util.TreeSet;
import java.util.regex.Matcher;
import java.util.regex.Pattern;
import javax.tools.JavaCompiler;
import javax.tools.ToolProvider;

/**
 * The calls that README.md shows, compiled as they stand there, each with the answer behind its
 * "//". It is run from the project's folder.
 */
public final class ReadmeTests {
    private static final Path README = Path.of("README.md");
    private static final String MADE = "ReadmeUse";

    /** A call, kept in a name or not, with its answer: "int file = x.thing(0, false, NONE); // 0: words". */
    private static final Pattern CALL = Pattern.compile("(int \\w+ = )?(x\\.(\\w+)\\([^;]*\\)); +// (-?\\d+)(?=[:,]|$).*");

    private static int wrong = 0;
    private static int asked = 0;

    /** The compiled lines come back to this; it answers what was got, for the names that keep it. */
    public static int due(String call, int got, int want) {
        asked++;
        if (got != want) {
            say(call + " answered " + got + ", README.md says " + want);
        }
        return got;
    }

    private static void say(String what) {
        wrong++;
        System.out.println(what);
    }

    public static void main(String[] args) throws IOException, ReflectiveOperationException {
        List<String> lines = Files.readAllLines(README);
        List<String> shown = new ArrayList<>();
        String source = sourceOf(usesIn(lines), shown);
        for (String name : publicMethods()) {
            if (!shown.contains(name)) {
                say("README.md shows no call of " + name);
            }
        }
        if (wrong == 0) {
            compileAndRun(source);
        }
        if (wrong == 0 && asked != shown.size()) {
            say("of " + shown.size() + " calls " + asked + " were asked");
        }
        namesTheTests(String.join("\n", lines));
        System.out.println(asked + " answers of README.md, " + wrong + " not as due");
        if (wrong != 0) {
            System.exit(1);
        }
    }

    /** Each block of Java in README.md as one text. */
    private static List<String> usesIn(List<String> lines) {
        List<String> uses = new ArrayList<>();
        StringBuilder use = null;
        for (String line : lines) {
            if (use == null) {
                use = line.equals("```java") ? new StringBuilder() : null;
            } else if (line.equals("```")) {
                uses.add(use.toString());
                use = null;
            } else {
                use.append(line).append('\n');
            }
        }
        if (uses.isEmpty() || use != null) {
            say("README.md has no block of Java, or one without an end");
        }
        return uses;
    }

    /** A class with a method for each use; the names of the calls are put into shown. */
    private static String sourceOf(List<String> uses, List<String> shown) {
        StringBuilder source = new StringBuilder("public final class " + MADE + " {\n");
        StringBuilder all = new StringBuilder("    public static void all() {\n");
        for (int i = 0; i < uses.size(); i++) {
            source.append("    private static void use").append(i).append("() {\n");
            for (String line : uses.get(i).split("\n")) {
                source.append("        ").append(checked(line, shown)).append('\n');
            }
            source.append("    }\n");
            all.append("        use").append(i).append("();\n");
        }
        return source.append(all).append("    }\n}\n").toString();
    }

    /** A line that calls the object gets its answer looked at; another one stays as it is. */
    private static String checked(String line, List<String> shown) {
        Matcher call = CALL.matcher(line);
        if (call.matches()) {
            shown.add(call.group(3));
            String kept = call.group(1) == null ? "" : call.group(1);
            return kept + "ReadmeTests.due(\"" + call.group(2) + "\", " + call.group(2) + ", " + call.group(4) + ");";
        }
        if (!line.startsWith("//") && line.contains("x.")) {
            say("a call without an answer: " + line);
        }
        return line;
    }

    private static Set<String> publicMethods() {
        Set<String> names = new TreeSet<>();
        for (Method method : ResourceEnds.class.getDeclaredMethods()) {
            if (Modifier.isPublic(method.getModifiers())) {
                names.add(method.getName());
            }
        }
        return names;
    }

    private static void compileAndRun(String source) throws IOException, ReflectiveOperationException {
        JavaCompiler compiler = ToolProvider.getSystemJavaCompiler();
        Path folder = Files.createTempDirectory("readme");
        Path file = folder.resolve(MADE + ".java");
        Path made = folder.resolve(MADE + ".class");
        try {
            Files.writeString(file, source);
            String with = System.getProperty("java.class.path");
            if (compiler.run(null, null, null, "-cp", with, "-d", folder.toString(), file.toString()) != 0) {
                say("README.md's lines are not Java");
                return;
            }
            try (URLClassLoader loader = new URLClassLoader(new URL[] {folder.toUri().toURL()})) {
                loader.loadClass(MADE).getMethod("all").invoke(null);
            } catch (InvocationTargetException e) {
                say("README.md's lines threw " + e.getCause());
            }
        } finally {
            Files.deleteIfExists(made);
            Files.deleteIfExists(file);
            Files.deleteIfExists(folder);
        }
    }

    private static void namesTheTests(String readme) throws IOException {
        if (!readme.contains("    .ci/run\n")) {
            say("README.md does not say how to run the tests");
        }
        try (var files = Files.list(Path.of("src/test/java"))) {
            files.map(file -> file.getFileName().toString().replace(".java", "")).sorted()
                .filter(name -> !readme.contains("- `" + name + "`: "))
                .forEach(name -> say("README.md does not name " + name));
        }
    }
}
