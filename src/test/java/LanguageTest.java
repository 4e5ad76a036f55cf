import java.io.IOException;
import java.lang.reflect.Field;
import java.lang.reflect.Method;
import java.lang.reflect.Modifier;
import java.nio.file.Files;
import java.nio.file.Path;
import java.util.ArrayList;
import java.util.Arrays;
import java.util.List;
import java.util.Set;
import java.util.regex.Matcher;
import java.util.regex.Pattern;

/** The rules of shared/LANGUAGE.md that can be read off the text and the class files. */
public final class LanguageTest {
    private static final Set<String> LIBRARY = Set.of("Math.abs", "Math.min", "Math.max", "Integer.bitCount",
            "System.arraycopy");
    private static final Set<String> THROWN = Set.of("IndexOutOfBoundsException", "IllegalArgumentException",
            "IllegalStateException");
    private static final String[] BANNED = {"\\bimport\\b", "\\bpackage\\b", "->", "::", "\\bsynchronized\\b",
        "\\bassert\\b", "\\bfinally\\b", "\\bcatch\\b", "\\btry\\b", "\\bprotected\\b", "\\bgetClass\\b", "\\bObject\\b",
        "\\bList\\b", "\\bhashCode\\b", "\\bequals\\b", "\\btoString\\b", "\\bDouble\\b", "\\bstatic \\{", "\\blambda\\b",
        "\\bThread\\b", "\\bRandom\\b", "\\bnanoTime\\b", "\\bcurrentTimeMillis\\b", "\\bvar\\b", "\\bfloat\\b"};

    public static void main(String[] args) throws IOException {
        List<String> lines = Files.readAllLines(Path.of("src", "main", "java", "CarTangos.java"));
        List<String> code = new ArrayList<>();
        for (String line : lines) {
            String bare = line.strip();
            boolean isComment = bare.startsWith("//") || bare.startsWith("/*") || bare.startsWith("*");
            code.add(isComment ? "" : line);
        }
        String text = String.join("\n", code);
        signs(lines);
        for (String banned : BANNED) {
            Check.same("the text is without " + banned, Pattern.compile(banned).matcher(text).find(), false);
        }
        library(text);
        exceptions(text);
        methodsAreShort(code);
        classes();
        Check.end("LanguageTest");
    }

    private static void signs(List<String> lines) {
        for (String line : lines) {
            Check.same("plain signs alone: " + line, line.chars().allMatch(c -> c >= 32 && c < 127), true);
        }
    }

    private static void library(String text) {
        Matcher calls = Pattern.compile("\\b([A-Z]\\w*\\.[a-z]\\w*)\\(").matcher(text);
        while (calls.find()) {
            Check.same("in the library: " + calls.group(1), LIBRARY.contains(calls.group(1)), true);
        }
        Matcher made = Pattern.compile("new (\\w+)").matcher(text);
        while (made.find()) {
            String name = made.group(1);
            boolean isFine = THROWN.contains(name) || Set.of("int", "Park", "Explorer", "WorksText").contains(name);
            Check.same("may be made: " + name, isFine, true);
        }
    }

    private static void exceptions(String text) {
        Matcher thrown = Pattern.compile("throw (.*);").matcher(text);
        while (thrown.find()) {
            Check.same("thrown plainly: " + thrown.group(1),
                    thrown.group(1).matches("new (" + String.join("|", THROWN) + ")\\(\"[^\"]*\"\\)"), true);
        }
    }

    private static void methodsAreShort(List<String> code) {
        int begin = -1;
        for (int i = 0; i < code.size(); i++) {
            if (code.get(i).matches("    (    )?[a-z][^=;]*\\(.*") && !code.get(i).contains(";")) {
                begin = i;
            }
            if (code.get(i).matches("    (    )?\\}") && begin >= 0) {
                Check.same("short: " + code.get(begin).strip(), i - begin < 45, true);
                begin = -1;
            }
        }
    }

    private static void classes() {
        List<Class<?>> classes = new ArrayList<>(Arrays.asList(CarTangos.class.getDeclaredClasses()));
        classes.add(CarTangos.class);
        Check.same("a few classes", classes.size() <= 12, true);
        for (Class<?> one : classes) {
            long fields = Arrays.stream(one.getDeclaredFields()).filter(f -> !Modifier.isStatic(f.getModifiers())).count();
            Check.same("a few fields in " + one, fields <= 20, true);
            for (Field field : one.getDeclaredFields()) {
                boolean isFine = !Modifier.isStatic(field.getModifiers()) || field.getType() == int.class
                        && Modifier.isFinal(field.getModifiers());
                Check.same("no static state: " + field, isFine, true);
            }
            for (Method method : one.getDeclaredMethods()) {
                Check.same("a few parameters: " + method, method.getParameterCount() <= 7, true);
            }
            Check.same("static inside: " + one,
                    one == CarTangos.class || Modifier.isStatic(one.getModifiers()), true);
        }
        noPrivateNameIsPublicToo(classes);
    }

    private static void noPrivateNameIsPublicToo(List<Class<?>> classes) {
        List<String> face = new ArrayList<>();
        for (Method method : CarTangos.class.getDeclaredMethods()) {
            if (Modifier.isPublic(method.getModifiers())) {
                face.add(method.getName());
            }
        }
        for (Class<?> one : classes) {
            for (Method method : one.getDeclaredMethods()) {
                if (!Modifier.isPublic(method.getModifiers())) {
                    Check.same("a name of its own: " + method, face.contains(method.getName()), false);
                }
            }
        }
    }
}
