import java.io.IOException;
import java.nio.file.Files;
import java.nio.file.Path;
import java.util.regex.Matcher;
import java.util.regex.Pattern;

/** LANGUAGE.md, as far as the source's words show it. */
public final class RulesTest {
    private static final Check CHECK = new Check("RulesTest");
    private static final String[] NEVER = {"\\bthrow\\b", "\\bthrows\\b", "\\btry\\b", "\\bcatch\\b", "\\bsynchronized\\b",
        "\\bassert\\b", "\\bimport\\b", "\\bpackage\\b", "->", "::", "Exact\\b", "\\bhashCode\\b", "\\btoString\\b", "\\bThread\\b",
        "\\bRandom\\b", "System\\.(?!arraycopy)", "\\bwhile \\(true\\)", "for \\(;;\\)", "\\bstatic \\{", "\\bprotected\\b"};

    public static void main(String[] args) throws IOException {
        String source = Files.readString(Path.of("src/main/java/GuardAbacus.java"));
        String code = source.replaceAll("(?s)/\\*.*?\\*/", "").replaceAll("//[^\n]*", "");
        CHECK.holds("signs 1 to 127", source.chars().allMatch(c -> c > 0 && c < 128));
        for (String never : NEVER) {
            CHECK.holds("no " + never, !Pattern.compile(never).matcher(code).find());
        }
        methods(code);
        CHECK.holds("some twelve classes", code.split("\\bclass\\b").length - 1 <= 12);
        CHECK.end();
    }

    private static void methods(String code) {
        Matcher head = Pattern.compile("(?m)^( +)[a-z ]*\\b[A-Za-z\\[\\]]+ (\\w+)\\(([^)]*)\\) \\{$").matcher(code);
        int found = 0;
        while (head.find()) {
            if (head.group().contains(" else ") || head.group().trim().startsWith("return")) {
                continue;
            }
            found++;
            int end = code.indexOf("\n" + head.group(1) + "}", head.end());
            long lines = code.substring(head.start(), Math.max(end, head.start())).lines().count();
            CHECK.holds(head.group(2) + " ends", end > 0);
            CHECK.holds(head.group(2) + " is short: " + lines, lines <= 60);
            CHECK.holds(head.group(2) + " takes seven at most", head.group(3).split(",").length <= 7);
        }
        CHECK.holds("methods are found: " + found, found > 60);
    }
}
