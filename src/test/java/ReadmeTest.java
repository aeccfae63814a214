import java.io.File;
import java.io.IOException;
import java.lang.reflect.Method;
import java.lang.reflect.Modifier;
import java.net.URL;
import java.net.URLClassLoader;
import java.nio.file.Files;
import java.nio.file.Path;
import java.util.ArrayList;
import java.util.List;
import java.util.TreeSet;
import java.util.regex.Matcher;
import java.util.regex.Pattern;
import java.util.stream.Stream;
import javax.tools.JavaCompiler;
import javax.tools.ToolProvider;

/**
 * Makes the calls that README.md shows: its Java is compiled as it stands there, in one class, and each call must
 * answer what stands behind it. A call without an answer counts as wrong, and so does a call of the class's face or
 * a test of the project that the page leaves out.
 */
public final class ReadmeTest {
    private static final Checks CHECKS = new Checks();
    private static final Path PAGE = Path.of("README.md");
    private static final Path TESTS = Path.of("src", "test", "java");
    private static final Pattern CALL = Pattern.compile("\\b(?:x|small)\\.(\\w+)\\(");
    private static final Pattern ANSWERED = Pattern.compile("(.*\\)); +// (-?\\d+|true|false)(, .*)?");

    /** Calls in their order, with the answers that the page tells. */
    private final List<String> calls = new ArrayList<>();
    private final List<String> answers = new ArrayList<>();
    /** The Java of the page: what stands in a method, and methods of its own. */
    private final StringBuilder body = new StringBuilder();
    private final StringBuilder methods = new StringBuilder();

    public static void main(String[] args) throws Exception {
        List<String> page = Files.readAllLines(PAGE);
        ReadmeTest test = new ReadmeTest();
        test.readJava(page);
        test.makeCalls();
        test.everyCallIsShown();
        everyTestIsShown(page);
        CHECKS.finish();
    }

    private void readJava(List<String> page) {
        boolean inside = false;
        boolean ownMethod = false;
        for (String line : page) {
            if (line.startsWith("```")) {
                inside = line.equals("```java");
                ownMethod = false;
            } else if (inside) {
                ownMethod |= line.startsWith("static ");
                (ownMethod ? methods : body).append(ownMethod ? line : readLine(line)).append('\n');
            }
        }
        CHECKS.due("README.md shows calls", !calls.isEmpty(), true);
    }

    /** A line as it is compiled: a call is told on, so that it can be compared with the answer behind it. */
    private String readLine(String line) {
        if (!CALL.matcher(line).lookingAt()) {
            return line;
        }
        Matcher answered = ANSWERED.matcher(line);
        boolean matches = answered.matches();
        CHECKS.due("README.md says what this answers: " + line, matches, true);
        if (!matches) {
            return line;
        }
        calls.add(line);
        answers.add(answered.group(2));
        return "told.add(String.valueOf(" + answered.group(1) + "));";
    }

    private void makeCalls() throws Exception {
        Path folder = Files.createTempDirectory("readme");
        try {
            compile(folder);
            compareAnswers(run(folder));
        } finally {
            remove(folder);
        }
    }

    private void compile(Path folder) throws IOException {
        Path source = folder.resolve("Readme.java");
        Files.writeString(source, "public final class Readme {\n" + methods
                + "public static void calls(java.util.List<String> told) {\n" + body + "}\n}\n");
        JavaCompiler compiler = ToolProvider.getSystemJavaCompiler();
        if (compiler == null) {
            throw new IllegalStateException("this Java has no compiler");
        }
        int code = compiler.run(null, null, null, "-cp", System.getProperty("java.class.path"),
                "-d", folder.toString(), source.toString());
        if (code != 0) {
            throw new IllegalStateException("the calls that README.md shows do not compile");
        }
    }

    private static List<String> run(Path folder) throws Exception {
        List<String> told = new ArrayList<>();
        URL[] places = {folder.toUri().toURL()};
        try (URLClassLoader loader = new URLClassLoader(places, ReadmeTest.class.getClassLoader())) {
            loader.loadClass("Readme").getMethod("calls", List.class).invoke(null, told);
        }
        return told;
    }

    private void compareAnswers(List<String> told) {
        CHECKS.due("calls that were made", told.size(), calls.size());
        for (int i = 0; i < told.size() && i < calls.size(); i++) {
            boolean same = told.get(i).equals(answers.get(i));
            CHECKS.due("README.md: " + calls.get(i) + " (it answers " + told.get(i) + ")", same, true);
        }
    }

    private void everyCallIsShown() {
        TreeSet<String> shown = new TreeSet<>();
        Matcher call = CALL.matcher(body);
        while (call.find()) {
            shown.add(call.group(1));
        }
        TreeSet<String> face = new TreeSet<>();
        for (Method method : FlyingBars.class.getDeclaredMethods()) {
            if (Modifier.isPublic(method.getModifiers())) {
                face.add(method.getName());
            }
        }
        CHECKS.due("README.md shows " + shown + ", the face is " + face, shown.equals(face), true);
    }

    private static void everyTestIsShown(List<String> page) throws IOException {
        TreeSet<String> listed = new TreeSet<>();
        for (String line : page) {
            if (line.startsWith("| ")) {
                for (String name : line.split("\\|")[1].trim().split(", ")) {
                    listed.add(name);
                }
            }
        }
        listed.remove("test");
        listed.remove("---");
        TreeSet<String> there = new TreeSet<>();
        try (Stream<Path> files = Files.list(TESTS)) {
            files.map(Path::toFile).map(File::getName).filter(name -> name.endsWith("Test.java"))
                    .forEach(name -> there.add(name.substring(0, name.length() - ".java".length())));
        }
        CHECKS.due("README.md lists the tests " + listed + ", there are " + there, listed.equals(there), true);
    }

    private static void remove(Path folder) throws IOException {
        List<Path> all = new ArrayList<>();
        try (Stream<Path> files = Files.walk(folder)) {
            files.forEach(all::add);
        }
        for (int i = all.size() - 1; i >= 0; i--) {
            Files.delete(all.get(i));
        }
    }
}
