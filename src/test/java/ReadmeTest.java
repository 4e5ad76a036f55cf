import java.io.File;
import java.io.IOException;
import java.lang.reflect.Method;
import java.lang.reflect.Modifier;
import java.nio.file.Files;
import java.nio.file.Path;
import java.util.Set;
import java.util.TreeSet;
import java.util.regex.Matcher;
import java.util.regex.Pattern;
import java.util.stream.Stream;
import javax.tools.ToolProvider;

/** README.md's example compiles and answers as it says, and its tables name every call and every test. */
public final class ReadmeTest {
    private static final Pattern EXAMPLE = Pattern.compile("```java\n(.*?)```", Pattern.DOTALL);
    private static final Pattern REMARKED =
            Pattern.compile("^(park\\.\\w+\\([^;]*\\)); +// (throws \\w+|true|false|-?\\d+)(:.*)?$");
    private static final String NAME = "ReadmeExample";

    public static void main(String[] args) throws IOException, InterruptedException {
        String readme = Files.readString(Path.of("README.md"));
        Matcher example = EXAMPLE.matcher(readme);
        Check.same("there is an example", example.find(), true);
        Check.same("the example answers as it says", endOf(programFrom(example.group(1))), 0);
        Check.same("the table of calls", namesInTable(readme, "| what for |", 2), methodsOfTheFace());
        Check.same("the table of tests", namesInTable(readme, "| test |", 1), testsThatStand());
        Check.end("ReadmeTest");
    }

    /** A program that checks each call of the example against the remark behind it. */
    private static String programFrom(String example) {
        StringBuilder text = new StringBuilder("final class " + NAME + " { public static void main(String[] args) {\n");
        for (String line : example.split("\n")) {
            Matcher remarked = REMARKED.matcher(line);
            if (remarked.matches()) {
                String call = remarked.group(1);
                String due = remarked.group(2).replace("throws ", "throws.java.lang.");
                text.append("Check.same(\"" + call + "\", Check.answer(() -> " + call + "), \"" + due + "\");\n");
            } else {
                Check.same("a remark that begins with an answer: " + line, line.contains("//"), false);
                text.append(line).append('\n');
            }
        }
        return text.append("Check.end(\"the example of README.md\"); } }\n").toString();
    }

    /** Compiles and runs the program, as a user of the class would; its exit code, or -1 if it does not compile. */
    private static int endOf(String program) throws IOException, InterruptedException {
        Path folder = Files.createTempDirectory("readme");
        try {
            Path file = Files.writeString(folder.resolve(NAME + ".java"), program);
            String path = System.getProperty("java.class.path") + File.pathSeparator + folder;
            int compiled = ToolProvider.getSystemJavaCompiler().run(null, System.out, System.out,
                    "-cp", path, "-d", folder.toString(), file.toString());
            String java = Path.of(System.getProperty("java.home"), "bin", "java").toString();
            return compiled == 0 ? new ProcessBuilder(java, "-cp", path, NAME).inheritIO().start().waitFor() : -1;
        } finally {
            for (File left : folder.toFile().listFiles()) {
                Files.delete(left.toPath());
            }
            Files.delete(folder);
        }
    }

    /** The names in a column (from 1) of the table with this head. */
    private static Set<String> namesInTable(String readme, String head, int column) {
        Set<String> names = new TreeSet<>();
        int begin = readme.indexOf(head);
        int end = readme.indexOf("\n\n", begin);
        String table = begin < 0 ? "" : readme.substring(begin, end < 0 ? readme.length() : end);
        table.lines().skip(2).forEach(row -> names.addAll(Set.of(row.split("\\|")[column].strip().split(", "))));
        return names;
    }

    private static Set<String> methodsOfTheFace() {
        Set<String> names = new TreeSet<>();
        for (Method method : CarTangos.class.getDeclaredMethods()) {
            if (Modifier.isPublic(method.getModifiers())) {
                names.add(method.getName());
            }
        }
        return names;
    }

    private static Set<String> testsThatStand() throws IOException {
        Set<String> names = new TreeSet<>();
        try (Stream<Path> files = Files.list(Path.of("src", "test", "java"))) {
            files.map(file -> file.getFileName().toString()).filter(name -> name.endsWith("Test.java"))
                    .forEach(name -> names.add(name.replace(".java", "")));
        }
        return names;
    }
}
