import java.io.File;
import java.io.IOException;
import java.lang.reflect.Method;
import java.lang.reflect.Modifier;
import java.net.URL;
import java.net.URLClassLoader;
import java.nio.file.Files;
import java.nio.file.Path;
import java.util.ArrayList;
import java.util.Comparator;
import java.util.List;
import java.util.Set;
import java.util.TreeSet;
import java.util.regex.Matcher;
import java.util.regex.Pattern;
import java.util.stream.Stream;
import javax.tools.ToolProvider;

/** README.md: the calls that it shows are compiled and made, and each answers as it says; its table names all tests. */
final class ReadmeTest {
    private static final Pattern CALL =
            Pattern.compile("(int \\w+ = )?(tower\\.\\w+\\(.*?\\)); *// (throws \\w+|-?[0-9.]+): .+");

    private final List<String> calls = new ArrayList<>();
    private final List<String> due = new ArrayList<>();
    private final StringBuilder body = new StringBuilder();

    private ReadmeTest() {
    }

    public static void main(String[] args) throws Exception {
        String page = Files.readString(Path.of("README.md"));
        ReadmeTest test = new ReadmeTest();
        String example = exampleOf(page);
        test.read(example);
        test.compare(test.answers());
        showsEachCall(example);
        namesEachTest(page);
        Check.finish();
    }

    private static String exampleOf(String page) {
        Matcher found = Pattern.compile("(?s)```java\n(.*?)```").matcher(page);
        Check.due("README.md has an example", found.find() ? 1 : 0, 1);
        return found.group(1);
    }

    /** Each line that begins with a call has to tell its answer; the others are taken as they are. */
    private void read(String example) {
        for (String line : example.split("\n")) {
            if (line.startsWith("tower.") || line.startsWith("int ")) {
                readCall(line);
            } else {
                body.append(line).append('\n');
            }
        }
    }

    private void readCall(String line) {
        Matcher found = CALL.matcher(line);
        Check.due("README.md tells the answer in: " + line, found.matches() ? 1 : 0, 1);
        if (!found.matches()) {
            return;
        }
        calls.add(found.group(2));
        due.add(found.group(3));
        if (found.group(1) != null) {
            String name = found.group(1).split(" ")[1];
            body.append(found.group(1)).append(found.group(2)).append("; answers.add(\"\" + ").append(name).append(");\n");
            return;
        }
        body.append("try { answers.add(\"\" + ").append(found.group(2)).append("); } ");
        body.append("catch (RuntimeException e) { answers.add(\"throws \" + e.getClass().getSimpleName()); }\n");
    }

    /** By a class of its own, which javac makes of the page. */
    private List<?> answers() throws Exception {
        Path folder = Files.createTempDirectory("readme");
        try {
            Path source = folder.resolve("ReadmeExample.java");
            Files.writeString(source, "public final class ReadmeExample {\n"
                    + "public static java.util.List<String> answers() {\n"
                    + "java.util.List<String> answers = new java.util.ArrayList<>();\n"
                    + body + "return answers;\n}\n}\n");
            String classes = System.getProperty("java.class.path");
            int exit = ToolProvider.getSystemJavaCompiler().run(
                    null, null, null, "-cp", classes, "-d", folder.toString(), source.toString());
            Check.due("javac on README.md's example", exit, 0);
            if (exit != 0) {
                return List.of();
            }
            try (URLClassLoader loader = new URLClassLoader(new URL[] {folder.toUri().toURL()})) {
                return (List<?>) loader.loadClass("ReadmeExample").getMethod("answers").invoke(null);
            }
        } finally {
            remove(folder);
        }
    }

    private static void remove(Path folder) throws IOException {
        try (Stream<Path> files = Files.walk(folder)) {
            files.sorted(Comparator.reverseOrder()).map(Path::toFile).forEach(File::delete);
        }
    }

    private void compare(List<?> answers) {
        Check.due("how many calls of README.md answered", answers.size(), due.size());
        for (int i = 0; i < Math.min(answers.size(), due.size()); i++) {
            Check.due("README.md's " + calls.get(i), "" + answers.get(i), due.get(i));
        }
    }

    private static void showsEachCall(String example) {
        for (Method method : BellRoster.class.getDeclaredMethods()) {
            if (Modifier.isPublic(method.getModifiers())) {
                boolean shown = example.contains("tower." + method.getName() + "(");
                Check.due("README.md shows " + method.getName(), shown ? 1 : 0, 1);
            }
        }
    }

    private static void namesEachTest(String page) throws IOException {
        Set<String> named = new TreeSet<>();
        Matcher rows = Pattern.compile("(?m)^\\| `(\\w+Test)` \\|").matcher(page);
        while (rows.find()) {
            named.add(rows.group(1));
        }
        Set<String> there = new TreeSet<>();
        try (Stream<Path> files = Files.list(Path.of("src/test/java"))) {
            files.map(file -> file.getFileName().toString()).filter(name -> name.endsWith("Test.java"))
                    .forEach(name -> there.add(name.replace(".java", "")));
        }
        Check.due("the tests that README.md names", named.toString(), there.toString());
    }
}
