import java.io.IOException;
import java.nio.file.DirectoryStream;
import java.nio.file.Files;
import java.nio.file.Path;
import java.util.Arrays;
import java.util.Set;
import java.util.regex.Matcher;
import java.util.regex.Pattern;

/** The sentences that tests are of stand in the document so, and no promise is without one: run in the project's directory. */
public final class QuotesTest {
    private static final Check CHECK = new Check();
    private static final Path DOCUMENT = Path.of("../shared/DOC.md");
    /** Heads, and words that no test can be of. */
    private static final Set<String> UNTESTED = Set.of("Terms One description is shipped: that of RV32IM",
            "In what follows TOKENS stand in", "ITEM", "EXPR", "NAME", "NAMES", "WIDTHS of EXPRS", "VALUES of EXPRS",
            "1) SYNTAX", "2) MEANING", "THE SHIPPED MACHINE");
    private static final String LITERAL = "\"((?:[^\"\\\\]|\\\\.)*)\"";
    private static final Pattern QUOTE = Pattern.compile("\\.sentence\\(((?:\\s*" + LITERAL + "\\s*\\+?)+)\\)");

    public static void main(String[] args) throws IOException {
        if (!Files.exists(DOCUMENT)) {
            // The class can be tested without its document; just what is quoted can't be looked at then.
            System.out.println("there is no " + DOCUMENT);
            return;
        }
        String document = inOneLine(Files.readString(DOCUMENT));
        boolean[] quoted = new boolean[document.length()];
        try (DirectoryStream<Path> tests = Files.newDirectoryStream(Path.of("src/test/java"), "*Test.java")) {
            for (Path test : tests) {
                markQuotes(test, document, quoted);
            }
        }
        promises(document, quoted);
        rest(document, quoted);
        CHECK.finish();
    }

    private static String inOneLine(String text) {
        return text.replaceAll("\\s+", " ");
    }

    private static void markQuotes(Path test, String document, boolean[] quoted) throws IOException {
        Matcher quotes = QUOTE.matcher(Files.readString(test));
        while (quotes.find()) {
            StringBuilder words = new StringBuilder();
            Matcher parts = Pattern.compile(LITERAL).matcher(quotes.group(1));
            while (parts.find()) {
                words.append(parts.group(1).replaceAll("\\\\(.)", "$1"));
            }
            String sentence = inOneLine(words.toString());
            CHECK.due(test.getFileName() + " quotes what stands there: " + sentence,
                    document.contains(sentence) ? 1 : 0, 1);
            for (int at = document.indexOf(sentence); at >= 0; at = document.indexOf(sentence, at + 1)) {
                Arrays.fill(quoted, at, at + sentence.length(), true);
            }
        }
    }

    private static void promises(String document, boolean[] quoted) {
        for (int promise = 1; promise <= 16; promise++) {
            int from = document.indexOf("## Promise " + promise + ":");
            int to = document.indexOf("## ", from + 3);
            int count = 0;
            for (int at = from; at < to; at++) {
                count += quoted[at] ? 1 : 0;
            }
            CHECK.due("promise " + promise + " is quoted", count > 0 ? 1 : 0, 1);
        }
    }

    /** Between quotes there stand but signs, heads, and the words that no test can be of. */
    private static void rest(String document, boolean[] quoted) {
        int from = document.indexOf("## Terms");
        int to = document.indexOf("## Not promised");
        StringBuilder left = new StringBuilder();
        for (int at = from; at < to; at++) {
            left.append(quoted[at] ? '\n' : document.charAt(at));
        }
        for (String piece : left.toString().split("\n+")) {
            String words = piece.replaceAll("## Promise \\d+: \\w+( \\w+)*|```(text)?|`[^`]*`", "")
                    .replaceAll("^[^A-Za-z0-9]+|[^A-Za-z0-9]+$", "");
            CHECK.due("nothing is left: " + words, words.isEmpty() || UNTESTED.contains(words) ? 1 : 0, 1);
        }
    }
}
