import java.io.IOException;
import java.nio.charset.StandardCharsets;
import java.nio.file.DirectoryStream;
import java.nio.file.Files;
import java.nio.file.Path;
import java.util.BitSet;
import java.util.regex.Matcher;
import java.util.regex.Pattern;

/** Every word of the document that names a boundary case stands in a sentence that one of the tests is of. */
public final class SentencesTest {
    private static final Check CHECK = new Check();
    private static final Pattern QUOTE = Pattern.compile("S\\.of\\((\\d+),\\s*((?:\"[^\"]*\"\\s*\\+?\\s*)+)\\);");
    private static final Pattern BOUNDARY = Pattern.compile("\\d+ \\.\\.|\\bat (?:most|least|first)\\b|\\bor more\\b"
        + "|\\b(?:BAD|STATE|FULL|NONE|NO|FAULT)\\b|-1[1-4]\\b|-100\\b|-5\\b"
        + "|\\b(?:above|below|too|else|empty|missing|wrapping|cut|bound|room|nobody|none|None|No|more than|less TENDED)\\b"
        + "|\\b(?:like ones|doesn't|does not|also|if more|in lowest terms|lowest|never|always|while|till|odd)\\b");

    public static void main(String[] args) throws IOException {
        Document document = new Document();
        BitSet[] quoted = new BitSet[Document.PROMISES + 1];
        for (int promise = 0; promise < quoted.length; promise++) {
            quoted[promise] = new BitSet();
        }
        Path tests = Path.of(System.getProperty("fouryears.tests", "src/test/java"));
        try (DirectoryStream<Path> sources = Files.newDirectoryStream(tests, "*BoundsTest.java")) {
            for (Path source : sources) {
                mark(Files.readString(source, StandardCharsets.UTF_8), document, quoted);
            }
        }
        for (int promise = 0; promise < quoted.length; promise++) {
            CHECK.holds("a sentence of promise " + promise, !quoted[promise].isEmpty());
            look(promise, document.section(promise), quoted[promise]);
        }
        CHECK.end();
    }

    private static void mark(String source, Document document, BitSet[] quoted) {
        Matcher quotes = QUOTE.matcher(source);
        while (quotes.find()) {
            int promise = Integer.parseInt(quotes.group(1));
            String words = quotes.group(2).replaceAll("\"\\s*\\+\\s*\"", "").replaceAll("^\"|\"\\s*$", "");
            int at = document.section(promise).indexOf(words);
            CHECK.holds("stands in promise " + promise + ": " + words, at >= 0);
            if (at >= 0) {
                quoted[promise].set(at, at + words.length());
            }
        }
    }

    private static void look(int promise, String section, BitSet quoted) {
        Matcher words = BOUNDARY.matcher(section);
        while (words.find()) {
            String around = section.substring(Math.max(0, words.start() - 40), Math.min(section.length(), words.end() + 40));
            CHECK.holds("of promise " + promise + ", tested: .. " + around + " ..", quoted.get(words.start()));
        }
    }
}
