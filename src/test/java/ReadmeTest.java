import java.io.IOException;
import java.nio.file.Files;
import java.nio.file.Path;
import java.util.regex.Matcher;
import java.util.regex.Pattern;

/** The calls on the page README.md answer what stands behind them: an answer, then ": " and why. */
public final class ReadmeTest {
    private static final Path README = Path.of("README.md");
    private static final Pattern CALL = Pattern.compile("x\\.(\\w+)\\((.*)\\); +// (\"[^\"]*\"|throws \\w+|[\\w-]+)(: .*)?");
    private static final int FEWEST_CALLS = 30;

    public static void main(String[] args) throws IOException {
        Object x = null;
        boolean isCode = false;
        int calls = 0;
        int wrong = 0;
        for (String line : Files.readAllLines(README)) {
            if (line.startsWith("```")) {
                isCode = line.equals("```java");
            } else if (isCode && line.equals("Leastreader x = new Leastreader();")) {
                x = new Leastreader();
            } else if (isCode) {
                calls++;
                wrong += isRight(x, line) ? 0 : 1;
            }
        }
        System.out.println("ReadmeTest: " + calls + " calls, " + wrong + " wrong");
        if (wrong > 0 || calls < FEWEST_CALLS) {
            System.exit(1);
        }
    }

    private static boolean isRight(Object x, String line) {
        Matcher call = CALL.matcher(line);
        if (x == null || !call.matches()) {
            System.out.println("ReadmeTest: no call with its answer: " + line);
            return false;
        }
        String due = call.group(3).replace("throws ", "throws.").replace("\"", "");
        String got = Script.call(x, call.group(1) + " " + call.group(2).replace(",", ""));
        if (!got.equals(due)) {
            System.out.println("ReadmeTest: " + line + ", but answered " + got);
        }
        return got.equals(due);
    }
}
