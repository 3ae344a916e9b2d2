import java.io.IOException;
import java.nio.file.Files;
import java.nio.file.Path;
import java.util.Arrays;
import java.util.List;
import java.util.Set;
import java.util.TreeSet;
import java.util.regex.Matcher;
import java.util.regex.Pattern;
import java.util.stream.Stream;

/** README.md holds: what it says that calls answer is what they answer, and its quotes are the document's words. */
public final class ReadmeTest {
    private static final Path README = Path.of("README.md"), TESTS = Path.of("src/test/java");
    private static final Pattern TYPED = Pattern.compile("for \\(char c : \"([^\"]*)\"\\.toCharArray\\(\\)\\) \\{");
    private static final Pattern CALL = Pattern.compile("x\\.(\\w+)\\(([-0-9, ]*)\\); +// (-?\\d+|[A-Z]+)\\b.*");
    private static final Pattern TOLD = Pattern.compile("\\| `([^`]*;[^`]*|v20 5 0)` \\| (-?\\d+) \\| .*");
    private static final Pattern CONSTANT = Pattern.compile("\\| `([A-Z]+)` \\| (-?\\d+) \\| .*");
    private static final Pattern PROMISE = Pattern.compile("^`(?:int|long) ([^`]*)`: (.*)$");
    private static final Set<String> CALLED = new TreeSet<>();

    public static void main(String[] args) throws IOException {
        Doc.open();
        List<String> lines = Files.readAllLines(README);
        theExample(lines);
        theTexts(lines);
        theConstants(lines);
        thePromises(lines);
        theQuotes(lines);
        theTests(lines);
        Check.end();
    }

    private static void theExample(List<String> lines) {
        KingPrices x = new KingPrices();
        for (String line : lines) {
            Matcher typed = TYPED.matcher(line);
            if (typed.matches()) {
                Check.type(x, typed.group(1));
                CALLED.add("type");
            }
            Matcher call = CALL.matcher(line);
            if (call.matches()) {
                CALLED.add(call.group(1));
                Check.due("README: " + line, answer(x, call.group(1), numbers(call.group(2))), number(call.group(3)));
            } else {
                Check.alike("README: a row of the example without an answer",
                    line.startsWith("x.") ? line : "none", "none");
            }
        }
        Check.due("README: calls that the example shows", CALLED.size(), 28);
    }

    private static int[] numbers(String list) {
        return list.isBlank() ? new int[0] : Arrays.stream(list.split(", *")).mapToInt(Integer::parseInt).toArray();
    }

    private static long number(String word) {
        return word.matches("-?\\d+") ? Long.parseLong(word) : constant(word);
    }

    private static long constant(String name) {
        try {
            return KingPrices.class.getField(name).getInt(null);
        } catch (ReflectiveOperationException e) {
            throw new IllegalStateException(e);
        }
    }

    private static long answer(KingPrices x, String name, int[] given) {
        Class<?>[] types = new Class<?>[given.length];
        Arrays.fill(types, int.class);
        Object[] values = Arrays.stream(given).boxed().toArray();
        try {
            return ((Number) KingPrices.class.getMethod(name, types).invoke(x, values)).longValue();
        } catch (ReflectiveOperationException e) {
            throw new IllegalStateException(e);
        }
    }

    private static void theTexts(List<String> lines) {
        int found = 0;
        for (String line : lines) {
            Matcher told = TOLD.matcher(line);
            if (told.matches()) {
                found++;
                Check.due("README: " + line, Check.typed(told.group(1)).land(), number(told.group(2)));
            }
        }
        Check.due("README: texts with what land() answers", found, 6);
    }

    private static void theConstants(List<String> lines) {
        int found = 0;
        for (String line : lines) {
            Matcher named = CONSTANT.matcher(line);
            if (named.matches()) {
                found++;
                Check.due("README: " + line, number(named.group(2)), constant(named.group(1)));
            }
        }
        Check.due("README: constants", found, 5);
    }

    /** Each call has a row with the document's words; the first promise is no call. */
    private static void thePromises(List<String> lines) {
        for (int promise = 2; promise <= 29; promise++) {
            Matcher words = PROMISE.matcher(Doc.words(promise));
            String row = words.matches() ? "| `" + words.group(1) + "` | " + words.group(2) + " |" : "no such promise";
            Check.alike("README: promise " + promise, lines.contains(row) ? row : "not there", row);
        }
    }

    private static void theQuotes(List<String> lines) throws IOException {
        String page = Doc.page();
        for (String line : lines) {
            if (line.startsWith("> ")) {
                Check.alike("README: the document says", page.contains(line.substring(2)) ? "so" : line, "so");
            }
        }
    }

    private static void theTests(List<String> lines) throws IOException {
        try (Stream<Path> files = Files.list(TESTS)) {
            for (Path file : files.sorted().toList()) {
                String name = file.getFileName().toString().replace(".java", "");
                boolean told = lines.stream().anyMatch(line -> line.startsWith("| `" + name + "` |"));
                Check.alike("README: a test without a row", name.endsWith("Test") && !told ? name : "none", "none");
            }
        }
    }
}
