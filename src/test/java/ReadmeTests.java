import java.io.IOException;
import java.nio.file.Files;
import java.nio.file.Path;
import java.util.List;
import java.util.regex.Matcher;
import java.util.regex.Pattern;

/** Makes the calls of the examples in README.md, in their order on one object, and asks for the answers told there. */
final class ReadmeTests {
    private static final Path README = Path.of("README.md");
    private static final Pattern CALL = Pattern.compile("league\\.(\\w+)\\(([-\\w, ]*)\\); +// (throws \\w+|-?\\d+).*");
    private static final Pattern TYPED = Pattern.compile("for \\(char sign : \"(.*)\"\\.toCharArray\\(\\)\\) \\{");
    private static final int FEWEST_CALLS = 20;

    private ReadmeTests() {
    }

    static void run() {
        Check.test("the examples of README.md", () -> {
            Run x = new Run();
            int calls = 0;
            for (String line : lines()) {
                calls += follow(x, line);
            }
            Check.due("whether README.md has its examples", calls >= FEWEST_CALLS, true);
        });
    }

    private static List<String> lines() {
        try {
            return Files.readAllLines(README);
        } catch (IOException e) {
            throw new IllegalStateException("README.md cannot be read", e);
        }
    }

    /** The number of calls whose answer was asked for. */
    private static int follow(Run x, String line) {
        Matcher typed = TYPED.matcher(line);
        if (typed.matches()) {
            x.typed(typed.group(1));
            return 0;
        }
        Matcher call = CALL.matcher(line);
        if (call.matches()) {
            x.due(call.group(3), call.group(1), numbers(call.group(2)));
            return 1;
        }
        if (line.startsWith("league.")) {
            Check.tell("README.md tells no answer in " + line);
        }
        return 0;
    }

    private static int[] numbers(String arguments) {
        if (arguments.isEmpty()) {
            return new int[0];
        }
        String[] words = arguments.split(", ");
        int[] numbers = new int[words.length];
        for (int i = 0; i < words.length; i++) {
            numbers[i] = Integer.parseInt(words[i]);
        }
        return numbers;
    }
}
