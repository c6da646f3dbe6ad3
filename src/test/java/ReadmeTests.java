import java.io.File;
import java.io.IOException;
import java.net.URL;
import java.net.URLClassLoader;
import java.nio.file.Files;
import java.nio.file.Path;
import java.util.List;
import java.util.Set;
import java.util.TreeSet;
import java.util.regex.Matcher;
import java.util.regex.Pattern;
import java.util.stream.Collectors;
import java.util.stream.Stream;
import javax.tools.ToolProvider;

/** What README.md says: its program gives the answers that stand behind the arrows, and it names each test. */
public final class ReadmeTests {
    private static final Pattern ANSWERED = Pattern.compile("(house\\.\\w+\\(.*\\));\\s*// -> (-?\\d+).*");
    private static final String NAME = "ReadmeProgram";

    private ReadmeTests() {
    }

    private static String program(String readme) {
        Matcher block = Pattern.compile("```java\\n(.*?)```", Pattern.DOTALL).matcher(readme);
        if (!block.find()) {
            throw new AssertionError("no program");
        }
        StringBuilder made = new StringBuilder("public class " + NAME + " {\n");
        made.append("public static java.util.List<Object[]> run() {\n");
        made.append("java.util.List<Object[]> answers = new java.util.ArrayList<>();\n");
        int answers = 0;
        for (String line : block.group(1).split("\n")) {
            Matcher answered = ANSWERED.matcher(line.trim());
            if (answered.matches()) {
                String call = answered.group(1);
                made.append("answers.add(new Object[] {\"").append(call).append("\", ").append(answered.group(2));
                made.append(", ").append(call).append("});\n");
                answers++;
            } else {
                made.append(line).append('\n');
            }
        }
        Checks.due("answers behind arrows", count(block.group(1), "->"), answers);
        return made.append("return answers; } }\n").toString();
    }

    private static int count(String text, String part) {
        return (text.length() - text.replace(part, "").length()) / part.length();
    }

    private static void run(String program) throws IOException, ReflectiveOperationException {
        Path made = Files.createTempDirectory("readme");
        Path source = made.resolve(NAME + ".java");
        Files.writeString(source, program);
        String path = System.getProperty("java.class.path");
        int failed = ToolProvider.getSystemJavaCompiler().run(null, null, null, "-cp", path, "-d", made.toString(),
                source.toString());
        Checks.due("the program compiles", 0, failed);
        if (failed == 0) {
            try (URLClassLoader loader = new URLClassLoader(new URL[] {made.toUri().toURL()})) {
                for (Object answer : (List<?>) loader.loadClass(NAME).getMethod("run").invoke(null)) {
                    Object[] told = (Object[]) answer;
                    Checks.due((String) told[0], (Integer) told[1], (Integer) told[2]);
                }
            }
        }
        for (File file : made.toFile().listFiles()) {
            file.delete();
        }
        made.toFile().delete();
    }

    private static Set<String> testClasses() throws IOException {
        try (Stream<Path> files = Files.list(Path.of("src/test/java"))) {
            return files.map(file -> file.getFileName().toString().replace(".java", ""))
                    .collect(Collectors.toCollection(TreeSet::new));
        }
    }

    private static void names(String readme) throws IOException {
        Set<String> due = testClasses();
        Set<String> named = new TreeSet<>();
        Matcher name = Pattern.compile("`([A-Z][a-z]\\w+)`").matcher(readme);
        while (name.find()) {
            named.add(name.group(1));
        }
        named.removeIf(its -> its.endsWith("Exception"));
        Checks.dueText("the tests that it names", String.join(" ", due), String.join(" ", named));
        for (String file : new String[] {".ci/run", "src/main/java/Leadchapel.java", "../shared/DOC.md",
            "../shared/LANGUAGE.md", "../shared/tests", "src/test/java"}) {
            boolean isThere = readme.contains(file) && Files.exists(Path.of(file));
            Checks.due("it names " + file + ", which is there", 1, isThere ? 1 : 0);
        }
    }

    public static void main(String[] args) throws IOException, ReflectiveOperationException {
        String readme = Files.readString(Path.of("README.md"));
        run(program(readme));
        names(readme);
        Checks.end();
    }
}
