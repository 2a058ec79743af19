import java.io.IOException;
import java.nio.file.Files;
import java.nio.file.Path;
import java.util.ArrayList;
import java.util.List;

/** The document by its promises, for the tests that name its sentences; run from the project's folder. */
final class Document {
    /** All that stands ahead of promise 1. */
    static final int TERMS = 0;
    private static final Path PLACE = Path.of("../shared/DOC.md");
    private static final List<List<String>> SECTIONS = read();

    private Document() {
    }

    static boolean isAtHand() {
        return !SECTIONS.isEmpty();
    }

    static boolean tells(int promise, String words) {
        for (String line : lines(promise)) {
            if (line.contains(words)) {
                return true;
            }
        }
        return false;
    }

    /** The lines that tell something: no headings, no empty ones. */
    private static List<String> lines(int promise) {
        return promise < SECTIONS.size() ? SECTIONS.get(promise) : List.of();
    }

    private static List<List<String>> read() {
        List<List<String>> sections = new ArrayList<>();
        if (!Files.exists(PLACE)) {
            return sections;
        }
        try {
            List<String> section = new ArrayList<>();
            sections.add(section);
            for (String line : Files.readAllLines(PLACE)) {
                if (line.startsWith("## Promise ") || line.equals("## Not promised")) {
                    section = new ArrayList<>();
                    sections.add(section);
                } else if (!line.isBlank() && !line.startsWith("#")) {
                    section.add(line.replace("`", ""));
                }
            }
        } catch (IOException e) {
            throw new IllegalStateException(e);
        }
        return sections;
    }
}
