import java.io.IOException;
import java.lang.reflect.Method;
import java.nio.charset.StandardCharsets;
import java.nio.file.Files;
import java.nio.file.Path;
import java.util.regex.Matcher;
import java.util.regex.Pattern;

/** The examples of README.md: a run of calls on one object, each with its answer behind it. */
public final class ReadmeTest {
    private static final Check CHECK = new Check();
    private static final Pattern BLOCK = Pattern.compile("(?s)```java\n(.*?)```");
    private static final Pattern MADE = Pattern.compile("FourYearsForAStrip garden = new FourYearsForAStrip\\(\\);");
    private static final Pattern CALL = Pattern.compile("garden\\.(\\w+)\\(([^)]*)\\);\\s+// (-?\\d+): .+");
    private static final Pattern FED = Pattern.compile(
        "for \\(char c : \"([^\"]*)\"\\.toCharArray\\(\\)\\) garden\\.feed\\(c\\);");
    private static final int CALLS_MOST = 512;

    private static FourYearsForAStrip garden;
    private static int calls;

    public static void main(String[] args) throws Exception {
        Matcher blocks = BLOCK.matcher(readme());
        while (blocks.find()) {
            for (String line : blocks.group(1).split("\n")) {
                follow(line);
            }
        }
        CHECK.holds("calls of one object: " + calls, calls > 0 && calls <= CALLS_MOST);
        CHECK.end();
    }

    private static String readme() throws IOException {
        return Files.readString(Path.of(System.getProperty("fouryears.readme", "README.md")), StandardCharsets.UTF_8);
    }

    private static void follow(String line) throws Exception {
        Matcher call = CALL.matcher(line);
        Matcher fed = FED.matcher(line);
        if (MADE.matcher(line).matches()) {
            CHECK.holds("made once", garden == null);
            garden = new FourYearsForAStrip();
        } else if (garden != null && call.matches()) {
            calls++;
            CHECK.due(line, ask(call.group(1), call.group(2)), Long.parseLong(call.group(3)));
        } else if (garden != null && fed.matches()) {
            calls += fed.group(1).length();
            Gardens.fed(garden, fed.group(1));
        } else {
            CHECK.holds("an example that can be followed: " + line, false);
        }
    }

    private static long ask(String name, String numbers) throws Exception {
        String[] parts = numbers.isBlank() ? new String[0] : numbers.split(",");
        Object[] given = new Object[parts.length];
        Class<?>[] types = new Class<?>[parts.length];
        for (int i = 0; i < parts.length; i++) {
            given[i] = Integer.parseInt(parts[i].strip());
            types[i] = int.class;
        }
        Method method = FourYearsForAStrip.class.getMethod(name, types);
        return ((Number) method.invoke(garden, given)).longValue();
    }
}
