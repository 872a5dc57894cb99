import java.io.IOException;
import java.nio.file.Files;
import java.nio.file.Path;
import java.util.ArrayList;
import java.util.HashMap;
import java.util.List;
import java.util.Map;
import java.util.regex.Matcher;
import java.util.regex.Pattern;

/** The lines of ../shared/DOC.md, so that a test can name a sentence and be held to its words. */
final class Document {
    private static final Pattern HEADING = Pattern.compile("## Promise (\\d+): .*");
    private static final int OUTSIDE = 0;

    private static final Path PATH = Path.of("../shared/DOC.md");

    private final Map<Integer, List<String>> lines = new HashMap<>();

    Document() throws IOException {
        if (!isThere()) {
            return;
        }
        int section = OUTSIDE;
        for (String line : Files.readAllLines(PATH)) {
            Matcher heading = HEADING.matcher(line);
            if (heading.matches()) {
                section = Integer.parseInt(heading.group(1));
            } else if (line.startsWith("## ")) {
                section = OUTSIDE;
            } else {
                lines.computeIfAbsent(section, key -> new ArrayList<>()).add(line);
            }
        }
    }

    /** Without the document, what is said of it can't be tested; the program can. */
    static boolean isThere() {
        return Files.isReadable(PATH);
    }

    boolean saysUnder(int promise, String sentence) {
        return !isThere() || lines.getOrDefault(promise, List.of()).stream().anyMatch(line -> line.contains(sentence));
    }

    boolean saysOutsideOfPromises(String sentence) {
        return saysUnder(OUTSIDE, sentence);
    }

    /** The lines of "The public face" that say something public. */
    List<String> face() {
        return lines.getOrDefault(OUTSIDE, List.of()).stream()
                .filter(line -> line.startsWith("    public "))
                .map(line -> line.substring("    public ".length()))
                .toList();
    }

    /**
     * The lines of a promise that a boundary case can hardly be missing from: what it throws, and what
     * has a number, or a second case behind a semicolon or in brackets.
     */
    List<String> limits(int promise) {
        return lines.getOrDefault(promise, List.of()).stream()
                .filter(line -> !line.startsWith("`"))
                .filter(line -> line.startsWith("Throws ") || line.matches(".*[0-9;(].*"))
                .toList();
    }
}
