import java.io.IOException;
import java.nio.file.DirectoryStream;
import java.nio.file.Files;
import java.nio.file.Path;
import java.util.BitSet;
import java.util.Map;
import java.util.TreeMap;
import java.util.regex.Matcher;
import java.util.regex.Pattern;

/**
 * The words that tests stand under (Check.promise) are the document's own, and no words of its Terms and its
 * promises are without a test; run from the project's folder.
 */
final class PromisesTest {
    private static final int PROMISES = 46;
    private static final Path TESTS = Path.of("src/test/java");
    private static final Pattern TITLE = Pattern.compile("(?m)^## (.*)$");
    private static final Pattern QUOTE = Pattern.compile(
            "Check\\.promise\\(\\s*(\\d+),\\s*((?:\"(?:[^\"\\\\]|\\\\.)*\"[\\s+]*)+),");
    // What the document only calls by name: lists of calls, the signatures, and signs between words.
    private static final Pattern NO_PROMISE = Pattern.compile(
            "Ahead of the calls .*? the interface says: ---- [^.]*\\.|The constants:|`[^`]*`:|\\b[IV]+\\.");

    private PromisesTest() {
    }

    public static void main(String[] args) throws IOException {
        String shared = System.getenv().getOrDefault("SHARED", "../shared");
        Path path = Path.of(shared, "DOC.md");
        if (!Files.isReadable(path)) {
            System.out.println("there is no " + path + " to look at");
            return;
        }
        Map<String, String> sections = sections(Files.readString(path));
        Map<String, BitSet> tested = new TreeMap<>();
        for (String title : sections.keySet()) {
            tested.put(title, new BitSet());
        }
        int[] tests = new int[PROMISES + 1];
        try (DirectoryStream<Path> files = Files.newDirectoryStream(TESTS, "*Test.java")) {
            for (Path file : files) {
                readQuotes(Files.readString(file), sections, tested, tests);
            }
        }
        for (int n = 1; n <= PROMISES; n++) {
            Check.due("promise " + n + " has tests under its number", tests[n] > 0, true);
        }
        for (String title : sections.keySet()) {
            if (title.equals("Terms") || title.startsWith("Promise ")) {
                untested(title, sections.get(title), tested.get(title));
            }
        }
        Check.end();
    }

    private static Map<String, String> sections(String text) {
        Map<String, String> sections = new TreeMap<>();
        Matcher m = TITLE.matcher(text);
        String title = "";
        int from = 0;
        while (m.find()) {
            sections.put(title, plain(text.substring(from, m.start())));
            title = m.group(1).replaceAll("^(Promise \\d+):.*", "$1");
            from = m.end();
        }
        sections.put(title, plain(text.substring(from)));
        return sections;
    }

    private static String plain(String text) {
        return text.replaceAll("```\\w*", " ").replaceAll("\\s+", " ");
    }

    private static void readQuotes(String code, Map<String, String> sections, Map<String, BitSet> tested, int[] tests) {
        Matcher m = QUOTE.matcher(code);
        while (m.find()) {
            int number = Integer.parseInt(m.group(1));
            String words = m.group(2).replaceAll("\"\\s*\\+\\s*\"", "").replaceAll("^\"|\"\\s*$", "");
            boolean known = number >= 1 && number <= PROMISES;
            Check.due("there is a promise " + number, known, true);
            if (known) {
                tests[number]++;
                boolean stands = false;
                for (String title : new String[] {"Promise " + number, "Terms", "What it is"}) {
                    stands |= stands(words, sections.getOrDefault(title, ""), tested.get(title));
                }
                Check.due("\"" + words + "\" stands in the document", stands, true);
            }
        }
    }

    private static boolean stands(String words, String section, BitSet tested) {
        boolean found = false;
        for (int at = section.indexOf(words); at >= 0; at = section.indexOf(words, at + 1)) {
            found = true;
            tested.set(at, at + words.length());
        }
        return found;
    }

    private static void untested(String title, String section, BitSet tested) {
        Matcher m = NO_PROMISE.matcher(section);
        while (m.find()) {
            tested.set(m.start(), m.end());
        }
        int at = tested.nextClearBit(0);
        while (at < section.length()) {
            int end = tested.nextSetBit(at);
            String words = section.substring(at, end < 0 ? section.length() : end);
            if (words.matches("(?s).*\\w.*")) {
                Check.due(title + ": \"" + words.strip() + "\" has a test", false, true);
            }
            at = end < 0 ? section.length() : tested.nextClearBit(end);
        }
    }
}
