import java.io.IOException;
import java.nio.file.Files;
import java.nio.file.Path;
import java.util.ArrayList;
import java.util.List;
import java.util.regex.Matcher;
import java.util.regex.Pattern;
import java.util.stream.Stream;

/**
 * No sentence of the terms and the promises is left out: each word of them stands in some test's quote (Check.says, behind
 * which something must be asked). The face ahead of them is FaceTest's. A quote covers its words wherever they stand.
 */
public final class WholeDocumentTest {
    private static final Check CHECK = new Check("WholeDocumentTest");
    private static final Pattern QUOTE = Pattern.compile("\\.says\\(((?:\\s*\\+?\\s*\"(?:[^\"\\\\]|\\\\.)*\")+)\\)");
    private static final Pattern LITERAL = Pattern.compile("\"((?:[^\"\\\\]|\\\\.)*)\"");
    private static final int PROMISES = 30;

    public static void main(String[] args) throws IOException {
        String document = Files.readString(Path.of("../shared/DOC.md"));
        List<String> quotes = quotes();
        CHECK.holds("quotes are found: " + quotes.size(), quotes.size() > 100);
        int terms = document.indexOf("\n## Terms");
        int first = document.indexOf("\n## Promise 1:");
        int end = document.indexOf("\n## Not promised");
        CHECK.holds("the document's parts are found", terms > 0 && first > terms && end > first);
        quoted("the terms", document.substring(terms, document.indexOf("\nAhead of the calls")), quotes);
        String[] promises = document.substring(first, end).split("\n## Promise ");
        CHECK.due("promises", promises.length - 1, PROMISES);
        for (int p = 1; p < promises.length; p++) {
            quoted("promise " + p, promises[p].substring(promises[p].indexOf('\n')), quotes);
        }
        CHECK.end();
    }

    private static List<String> quotes() throws IOException {
        List<String> all = new ArrayList<>();
        try (Stream<Path> files = Files.list(Path.of("src/test/java"))) {
            for (Path file : files.sorted().toList()) {
                Matcher quote = QUOTE.matcher(Files.readString(file));
                while (quote.find()) {
                    StringBuilder words = new StringBuilder();
                    LITERAL.matcher(quote.group(1)).results().forEach(part -> words.append(part.group(1)));
                    all.add(plain(words.toString()));
                }
            }
        }
        return all;
    }

    private static String plain(String words) {
        return words.replaceAll("\\s+", " ");
    }

    /** Headings, fences and a promise's signature are no sentences; of the rest only signs may stand in no quote. */
    private static void quoted(String part, String text, List<String> quotes) {
        String bare = plain(text.replaceAll("(?m)^## .*$|^```(text)?$|^==== \\d", "").replaceAll("(?s)^\\s*`[^`]*`:", ""));
        StringBuilder left = new StringBuilder(bare);
        for (String quote : quotes) {
            for (int at = bare.indexOf(quote); at >= 0; at = bare.indexOf(quote, at + 1)) {
                left.replace(at, at + quote.length(), " ".repeat(quote.length()));
            }
        }
        String unquoted = left.toString().replaceAll("[ .,;:()]+", " ").trim();
        CHECK.holds(part + ", in no quote: '" + unquoted + "'", unquoted.isEmpty());
    }
}
