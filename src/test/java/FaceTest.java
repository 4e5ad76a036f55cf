import java.io.IOException;
import java.lang.reflect.Constructor;
import java.lang.reflect.Method;
import java.lang.reflect.Modifier;
import java.nio.file.Files;
import java.nio.file.Path;
import java.util.Arrays;
import java.util.Set;
import java.util.TreeSet;
import java.util.regex.Matcher;
import java.util.regex.Pattern;
import java.util.stream.Collectors;

/** The class has the document's face ("The public face") and no other public, protected or package-visible member. */
public final class FaceTest {
    private static final Pattern LINE = Pattern.compile("^    public (.+) (\\w+)\\((.*)\\)(?: throws (.*))?;$");

    public static void main(String[] args) throws IOException {
        Set<String> due = new TreeSet<>();
        for (String line : Files.readAllLines(Path.of("..", "shared", "DOC.md"))) {
            Matcher matcher = LINE.matcher(line);
            if (matcher.matches()) {
                due.add(matcher.group(1) + " " + matcher.group(2) + "(" + typesOf(matcher.group(3)) + ") "
                        + (matcher.group(4) == null ? "" : matcher.group(4).replace(" ", "")));
            }
        }
        Set<String> got = new TreeSet<>();
        for (Method method : CarTangos.class.getDeclaredMethods()) {
            if (!Modifier.isPrivate(method.getModifiers()) && !method.isSynthetic()) {
                got.add(method.getReturnType().getSimpleName() + " " + method.getName() + "("
                        + namesOf(method.getParameterTypes()) + ") " + namesOf(method.getExceptionTypes()));
                Check.same(method.getName() + " is public, and of the object", method.getModifiers(), Modifier.PUBLIC);
            }
        }
        Check.same("50 methods", due.size(), 50);
        Check.same("the methods", got, due);
        classAndFields();
        Check.end("FaceTest");
    }

    private static void classAndFields() {
        Check.same("public and final", CarTangos.class.getModifiers(), Modifier.PUBLIC | Modifier.FINAL);
        Constructor<?>[] constructors = CarTangos.class.getDeclaredConstructors();
        Check.same("one constructor", constructors.length, 1);
        Check.same("public, without arguments", constructors[0].toString(), "public CarTangos()");
        Arrays.stream(CarTangos.class.getDeclaredFields()).filter(f -> !f.isSynthetic())
                .forEach(f -> Check.same(f.getName() + " is private", Modifier.isPrivate(f.getModifiers()), true));
        Arrays.stream(CarTangos.class.getDeclaredClasses())
                .forEach(c -> Check.same(c.getName() + " is private", Modifier.isPrivate(c.getModifiers()), true));
    }

    private static String typesOf(String parameters) {
        return Arrays.stream(parameters.split(", *")).map(p -> p.split(" ")[0]).collect(Collectors.joining(","));
    }

    private static String namesOf(Class<?>[] types) {
        return Arrays.stream(types).map(Class::getSimpleName).collect(Collectors.joining(","));
    }
}
