import java.io.IOException;
import java.nio.file.Files;
import java.nio.file.Path;
import java.util.ArrayList;
import java.util.BitSet;
import java.util.List;

/**
 * The document's sentences, quoted by the tests that hold the class to them. A quote that does not stand in the
 * document is wrong, and so is a part of the document that no test has quoted.
 */
final class Doc {
    private static final Path PAGE = Path.of("../shared/DOC.md");
    private static final List<Doc> PARTS = new ArrayList<>();

    private final String name;
    private final String words;
    private final BitSet quoted = new BitSet();

    private Doc(String name, String words) {
        this.name = name;
        this.words = inOneLine(words);
    }

    private static String inOneLine(String words) {
        return words.replaceAll("```[a-z]*", " ").replaceAll("\\s+", " ").trim();
    }

    /** The whole document. */
    static String page() throws IOException {
        return inOneLine(Files.readString(PAGE));
    }

    /** What a part says, by its number. */
    static String words(int part) {
        return PARTS.get(part).words;
    }

    /** Parts by number: 0 is 'Terms', the others are the promises. */
    static void open() throws IOException {
        String page = Files.readString(PAGE);
        PARTS.add(new Doc("Terms", between(page, "## Terms\n", "\n## ")));
        for (int promise = 1; promise <= 29; promise++) {
            String head = "## Promise " + promise + ": ";
            PARTS.add(new Doc("Promise " + promise, afterLine(between(page, head, "\n## "))));
        }
    }

    private static String between(String page, String from, String to) {
        int start = page.indexOf(from);
        int end = start < 0 ? -1 : page.indexOf(to, start + from.length());
        return end < 0 ? "" : page.substring(start + from.length(), end);
    }

    private static String afterLine(String part) {
        return part.substring(part.indexOf('\n') + 1);
    }

    static void terms(String... quotes) {
        quote(PARTS.get(0), quotes);
    }

    static void promise(int number, String... quotes) {
        quote(PARTS.get(number), quotes);
    }

    private static void quote(Doc part, String... quotes) {
        for (String quote : quotes) {
            int at = part.words.indexOf(quote);
            Check.due(part.name + " says \"" + quote + "\"", at < 0 ? 0 : 1, 1);
            while (at >= 0) {
                part.quoted.set(at, at + quote.length());
                at = part.words.indexOf(quote, at + 1);
            }
        }
    }

    /** Signs and blanks between two quotes need no quote of their own. */
    static void allIsQuoted() {
        for (Doc part : PARTS) {
            Check.due(part.name + " is in the document", part.words.isEmpty() ? 0 : 1, 1);
            StringBuilder left = new StringBuilder();
            for (int i = 0; i < part.words.length(); i++) {
                left.append(part.quoted.get(i) ? ' ' : part.words.charAt(i));
            }
            Check.alike("what no test has quoted of " + part.name,
                left.toString().replaceAll("[ =.,;:()]+", " ").trim(), "");
        }
    }
}
