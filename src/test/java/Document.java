import java.io.IOException;
import java.io.UncheckedIOException;
import java.nio.file.Files;
import java.nio.file.Path;
import java.util.ArrayList;
import java.util.List;
import java.util.Map;
import java.util.TreeMap;
import java.util.regex.Pattern;

/** What ../shared/DOC.md says, by promise, and which of its words the tests have named. */
final class Document {
    /** The number under which the words ahead of promise 1 stand. */
    static final int TERMS = 0;
    static final int PROMISES = 51;

    private static final Pattern SIGNATURE = Pattern.compile("^`[^`]*`: ");
    private static final Pattern THROWS = Pattern.compile("^Throws `\\w+` if ");
    /** What may stand between the words that tests have named. */
    private static final Pattern BETWEEN = Pattern.compile("[\\s.,;:()-]|\\bor\\b|\\band\\b");

    private static final Map<Integer, List<String>> LINES = read();
    private static final Map<Integer, List<String>> NAMED = new TreeMap<>();

    private Document() {
    }

    /** Whether these words stand there; they count as named from now on. */
    static boolean quote(int section, String words) {
        NAMED.computeIfAbsent(section, s -> new ArrayList<>()).add(words);
        return LINES.getOrDefault(section, List.of()).stream().anyMatch(line -> line.contains(words));
    }

    /** The words of each line that no test has named. */
    static List<String> wordsWithoutTest() {
        List<String> left = new ArrayList<>();
        LINES.forEach((section, lines) -> {
            List<String> named = new ArrayList<>(NAMED.getOrDefault(section, List.of()));
            named.sort((a, b) -> b.length() - a.length());
            for (String line : lines) {
                String rest = line;
                for (String words : named) {
                    rest = rest.replace(words, " ");
                }
                if (!BETWEEN.matcher(rest).replaceAll("").isEmpty()) {
                    left.add((section == TERMS ? "terms" : "promise " + section) + ": " + rest.strip());
                }
            }
        });
        return left;
    }

    static int sections() {
        return LINES.size();
    }

    private static Map<Integer, List<String>> read() {
        Map<Integer, List<String>> lines = new TreeMap<>();
        int section = -1;
        try {
            for (String line : Files.readAllLines(Path.of("..", "shared", "DOC.md"))) {
                if (line.startsWith("#")) {
                    section = sectionOf(line, section);
                } else if (section >= TERMS && !isHeading(line)) {
                    String bare = THROWS.matcher(SIGNATURE.matcher(line).replaceFirst("")).replaceFirst("");
                    lines.computeIfAbsent(section, s -> new ArrayList<>()).add(bare);
                }
            }
        } catch (IOException e) {
            throw new UncheckedIOException(e);
        }
        return lines;
    }

    private static int sectionOf(String heading, int before) {
        if (heading.startsWith("## Promise ")) {
            return Integer.parseInt(heading.substring(11, heading.indexOf(':')));
        }
        if (heading.equals("## Terms") || heading.equals("## What it is")) {
            return TERMS;
        }
        return heading.startsWith("###") ? before : -1;
    }

    /** Short lines without an end are headings; "Ahead of" tells how the face is set out; the last is the title. */
    private static boolean isHeading(String line) {
        return line.matches("[\\w, ]+") || line.startsWith("Ahead of the calls ") || line.startsWith("Car park tango ");
    }
}
