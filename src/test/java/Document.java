import java.io.IOException;
import java.io.UncheckedIOException;
import java.nio.charset.StandardCharsets;
import java.nio.file.Files;
import java.nio.file.Path;

/** The words of the project's document, by promise; 0 are its terms. */
final class Document {
    static final int PROMISES = 30;

    private final String[] sections = new String[PROMISES + 1];

    Document() {
        String all = read(System.getProperty("fouryears.document", "../shared/DOC.md"));
        sections[0] = between(all, "## Terms", "## Promise 1:");
        for (int promise = 1; promise <= PROMISES; promise++) {
            String next = promise < PROMISES ? "## Promise " + (promise + 1) + ":" : "## Not promised";
            sections[promise] = between(all, "## Promise " + promise + ":", next);
        }
    }

    private static String read(String path) {
        try {
            return Files.readString(Path.of(path), StandardCharsets.UTF_8).replaceAll("\\s+", " ");
        } catch (IOException e) {
            throw new UncheckedIOException(e);
        }
    }

    private static String between(String all, String from, String to) {
        int begin = all.indexOf(from);
        int end = all.indexOf(to);
        if (begin < 0 || end < begin) {
            throw new IllegalStateException("no section from " + from + " to " + to);
        }
        return all.substring(begin + from.length(), end);
    }

    String section(int promise) {
        return sections[promise];
    }
}
