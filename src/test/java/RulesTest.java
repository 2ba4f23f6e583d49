import java.io.IOException;
import java.lang.reflect.Field;
import java.lang.reflect.Modifier;
import java.nio.file.Files;
import java.nio.file.Path;
import java.util.ArrayList;
import java.util.HashMap;
import java.util.HashSet;
import java.util.List;
import java.util.Map;
import java.util.Set;
import java.util.regex.Matcher;
import java.util.regex.Pattern;

/** LANGUAGE.md, as far as the source's words and the class's members show it. */
public final class RulesTest {
    private static final Check CHECK = new Check("RulesTest");
    private static final String[] NEVER = {"\\bthrow\\b", "\\bthrows\\b", "\\btry\\b", "\\bcatch\\b", "\\bsynchronized\\b",
        "\\bassert\\b", "\\bimport\\b", "\\bpackage\\b", "->", "::", "Exact\\b", "\\bhashCode\\b", "\\btoString\\b", "\\bThread\\b",
        "\\bRandom\\b", "System\\.(?!arraycopy)", "\\bwhile \\(true\\)", "for \\(;;\\)", "\\bstatic \\{", "\\bprotected\\b"};
    /* What the class uses; what LANGUAGE.md lists beyond it may be put here when it is needed. */
    private static final Set<String> LIBRARY = Set.of("Math.abs", "Math.min", "Math.max", "Long.MIN_VALUE", "System.arraycopy");
    private static final Set<String> CAST_TO = Set.of("byte", "short", "long");
    private static final int MOST_LINES = 60, MOST_PARAMETERS = 7, MOST_DEEP = 8, MOST_CLASSES = 12, MOST_FIELDS = 20;

    public static void main(String[] args) throws IOException {
        String source = Files.readString(Path.of("src/main/java/GuardAbacus.java"));
        String code = source.replaceAll("(?s)/\\*.*?\\*/", "").replaceAll("//[^\n]*", "");
        CHECK.holds("signs 1 to 127", source.chars().allMatch(c -> c > 0 && c < 128));
        for (String never : NEVER) {
            CHECK.holds("no " + never, !Pattern.compile(never).matcher(code).find());
        }
        library(code);
        Map<String, String> bodies = methods(code);
        depths(bodies);
        classes();
        CHECK.end();
    }

    /** Rules 3, 4 and 6: what stands behind a capital letter is listed, casts are among numbers, nothing else is made. */
    private static void library(String code) {
        Set<String> own = new HashSet<>(Set.of("GuardAbacus"));
        for (Class<?> c : GuardAbacus.class.getDeclaredClasses()) {
            own.add(c.getSimpleName());
        }
        Matcher used = Pattern.compile("(?<![\\w.])([A-Z][a-z]\\w*\\.\\w+)").matcher(code);
        while (used.find()) {
            CHECK.holds(used.group(1) + " is of the library", LIBRARY.contains(used.group(1)));
        }
        Matcher cast = Pattern.compile("\\((\\w+)\\) \\w").matcher(code);
        while (cast.find()) {
            boolean isHead = code.substring(code.lastIndexOf('\n', cast.start()) + 1, cast.start()).trim().matches("(if|for|while|switch|\\} else if) ?");
            CHECK.holds("a cast to " + cast.group(1), isHead || CAST_TO.contains(cast.group(1)));
        }
        Matcher made = Pattern.compile("\\bnew (\\w+)([\\[(<])").matcher(code);
        while (made.find()) {
            boolean isRow = made.group(2).equals("[") && Set.of("int", "long").contains(made.group(1));
            CHECK.holds("new " + made.group(1), isRow || own.contains(made.group(1)));
        }
        CHECK.holds("no rows of rows", !code.contains("[][]"));
    }

    /** Rule 11; answers each method's body by its name, all of which are unlike. */
    private static Map<String, String> methods(String code) {
        Matcher head = Pattern.compile("(?m)^( +)[a-z ]*\\b[A-Za-z\\[\\]]+ (\\w+)\\(([^)]*)\\) \\{$").matcher(code);
        Map<String, String> bodies = new HashMap<>();
        while (head.find()) {
            if (head.group().contains(" else ") || head.group().trim().startsWith("return")) {
                continue;
            }
            int end = code.indexOf("\n" + head.group(1) + "}", head.end());
            String body = code.substring(head.end(), Math.max(end, head.end()));
            CHECK.holds(head.group(2) + " ends", end > 0);
            CHECK.holds(head.group(2) + " is short", body.lines().count() <= MOST_LINES);
            CHECK.holds(head.group(2) + " takes seven at most", head.group(3).split(",").length <= MOST_PARAMETERS);
            CHECK.holds(head.group(2) + " is but one", bodies.put(head.group(2), body) == null);
        }
        CHECK.holds("methods are found: " + bodies.size(), bodies.size() > 60);
        return bodies;
    }

    /** Rules 8 and 11: no recursion, and calls go at most eight deep, the public one counted. */
    private static void depths(Map<String, String> bodies) {
        for (String name : bodies.keySet()) {
            int deep = deep(name, bodies, new ArrayList<>());
            CHECK.holds(name + " goes " + deep + " deep", deep <= MOST_DEEP);
        }
    }

    private static int deep(String name, Map<String, String> bodies, List<String> open) {
        CHECK.holds("no recursion: " + open + " " + name, !open.contains(name));
        if (open.contains(name) || open.size() > MOST_DEEP) {
            return open.size();
        }
        List<String> here = new ArrayList<>(open);
        here.add(name);
        int deepest = 0;
        for (String other : bodies.keySet()) {
            if (Pattern.compile("(?<!\\bnew )\\b" + other + "\\(").matcher(bodies.get(name)).find()) {
                deepest = Math.max(deepest, deep(other, bodies, here));
            }
        }
        return 1 + deepest;
    }

    /** Rules 5 and 11. */
    private static void classes() {
        List<Class<?>> all = new ArrayList<>(List.of(GuardAbacus.class.getDeclaredClasses()));
        all.add(GuardAbacus.class);
        CHECK.holds("some twelve classes: " + all.size(), all.size() <= MOST_CLASSES);
        for (Class<?> c : all) {
            int fields = 0;
            for (Field f : c.getDeclaredFields()) {
                boolean isStatic = Modifier.isStatic(f.getModifiers());
                fields += isStatic ? 0 : 1;
                CHECK.holds(f + " is a constant if static", !isStatic || Modifier.isFinal(f.getModifiers()) && f.getType().isPrimitive());
            }
            CHECK.holds(c + " has some twenty fields: " + fields, fields <= MOST_FIELDS);
            CHECK.due(c + " has no classes of its own but the outermost", c == GuardAbacus.class ? 0 : c.getDeclaredClasses().length, 0);
        }
    }
}
