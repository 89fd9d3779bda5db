import java.io.IOException;
import java.nio.file.Files;
import java.nio.file.Path;
import java.util.regex.Matcher;
import java.util.regex.Pattern;

/** The example of README.md answers what it says that it answers; it is run from the project's directory. */
public final class ReadmeTest {
    private static final Pattern LINE = Pattern.compile("host\\.(\\w+)\\(([^)]*)\\); *// ([^:]+): .*");
    private static final int CALLS_AT_LEAST = 10;

    public static void main(String[] args) throws IOException {
        Face host = new Real();
        int calls = 0;
        for (String line : Files.readAllLines(Path.of("README.md"))) {
            Matcher matcher = LINE.matcher(line);
            if (matcher.matches()) {
                calls++;
                String told = matcher.group(3);
                String want = told.endsWith("Exception") ? "throws." + told : told;
                Due.due("README.md: " + line, want, call(host, matcher.group(1), numbers(matcher.group(2))));
            } else {
                // Else a line of another form would pass without being looked at.
                Due.due("README.md: a call without an answer: " + line, false, "" + line.startsWith("host."));
            }
        }
        Due.due("README.md has an example", true, "" + (calls >= CALLS_AT_LEAST));
        Due.end();
    }

    private static long[] numbers(String list) {
        String[] texts = list.replace("L", "").split(", *");
        long[] numbers = new long[texts.length];
        for (int i = 0; i < texts.length; i++) {
            numbers[i] = Long.parseLong(texts[i]);
        }
        return numbers;
    }

    private static String call(Face host, String name, long[] n) {
        switch (name) {
            case "begin":
                return host.begin((int) n[0], (int) n[1], (int) n[2]);
            case "get":
                return host.get((int) n[0], (int) n[1]);
            case "put":
                return host.put((int) n[0], (int) n[1], n[2]);
            case "commit":
                return host.commit((int) n[0]);
            case "advance":
                return host.advance((int) n[0], (int) n[1]);
            case "state":
                return host.state((int) n[0], (int) n[1]);
            case "look":
                return host.look((int) n[0], (int) n[1], (int) n[2], (int) n[3]);
            case "verdict":
                return host.verdict((int) n[0], (int) n[1]);
            default:
                return "a call that this test does not know";
        }
    }
}
