import java.io.IOException;
import java.lang.reflect.Method;
import java.net.URL;
import java.net.URLClassLoader;
import java.nio.file.Files;
import java.nio.file.Path;
import java.util.List;
import java.util.Set;
import java.util.TreeSet;
import java.util.regex.MatchResult;
import java.util.regex.Matcher;
import java.util.regex.Pattern;
import java.util.stream.Stream;
import javax.tools.JavaCompiler;
import javax.tools.ToolProvider;

/** What README.md says is so: its examples are compiled and answer as told, its tables leave out no call and no test. */
public final class ReadmeTest {
    private static final Check CHECK = new Check("ReadmeTest");
    private static final Pattern EXAMPLE = Pattern.compile("(?s)```java\n(.*?)```");
    /* A call as a statement, and the number or the constant that its comment begins with. */
    private static final Pattern TOLD = Pattern.compile("(?m)^(x\\.\\w+\\(.*\\)); +// (-?\\d+|[A-Z]+)\\b.*$");
    private static final Pattern CALL = Pattern.compile("(?m)^x\\.");

    public static void main(String[] args) throws Exception {
        String readme = Files.readString(Path.of("README.md"));
        examples(readme);
        calls(readme);
        tests(readme);
        CHECK.end();
    }

    private static void examples(String readme) throws Exception {
        Matcher example = EXAMPLE.matcher(readme);
        int found = 0;
        while (example.find()) {
            String code = example.group(1);
            long told = TOLD.matcher(code).results().count();
            CHECK.due("each call of example " + found + " tells its answer", told, CALL.matcher(code).results().count());
            run("ReadmeExample" + found, code, told);
            found++;
        }
        CHECK.due("examples", found, 2);
    }

    /** Each told call becomes a row of three: its words, what it answers, what is due. */
    private static String seenAndDue(MatchResult told) {
        String call = told.group(1);
        String due = (Character.isLetter(told.group(2).charAt(0)) ? "GuardAbacus." : "") + told.group(2);
        return Matcher.quoteReplacement("seen.add(new Object[] {\"" + call + "\", (long) " + call + ", (long) " + due + "});");
    }

    private static void run(String name, String code, long told) throws Exception {
        String body = TOLD.matcher(code).replaceAll(ReadmeTest::seenAndDue);
        Path place = Files.createTempDirectory("readme");
        Path file = place.resolve(name + ".java");
        Files.writeString(file, "public class " + name + " { public static java.util.List<Object[]> seen() {\n"
            + "java.util.List<Object[]> seen = new java.util.ArrayList<>();\n" + body + "return seen; } }\n");
        JavaCompiler compiler = ToolProvider.getSystemJavaCompiler();
        int end = compiler.run(null, null, null, "-cp", System.getProperty("java.class.path"), "-d", place.toString(), file.toString());
        CHECK.due(name + " compiles", end, 0);
        if (end == 0) {
            compare(name, place, told);
        }
        remove(place);
    }

    private static void compare(String name, Path place, long told) throws Exception {
        try (URLClassLoader loader = new URLClassLoader(new URL[] {place.toUri().toURL()}, ReadmeTest.class.getClassLoader())) {
            Method seen = loader.loadClass(name).getMethod("seen");
            List<?> answers = (List<?>) seen.invoke(null);
            CHECK.due(name + ": answers", answers.size(), told);
            for (Object answer : answers) {
                Object[] one = (Object[]) answer;
                CHECK.due(name + ": " + one[0], (Long) one[1], (Long) one[2]);
            }
        }
    }

    private static void remove(Path place) throws IOException {
        try (Stream<Path> files = Files.list(place)) {
            for (Path file : files.toList()) {
                Files.delete(file);
            }
        }
        Files.delete(place);
    }

    /** Its table has each method of the document's face, with the parameters' names. */
    private static void calls(String readme) throws IOException {
        String document = Files.readString(Path.of("../shared/DOC.md"));
        Matcher method = Pattern.compile("(?m)^    public (?:int|long) (\\w+)\\((.*)\\);$").matcher(document);
        int found = 0;
        while (method.find()) {
            found++;
            String call = "`" + method.group(1) + "(" + method.group(2).replace("int ", "") + ")`";
            CHECK.holds(call + " stands in the table", Pattern.compile("(?m)^\\| .*" + Pattern.quote(call) + ".* \\|$").matcher(readme).find());
        }
        CHECK.due("methods", found, 29);
    }

    private static void tests(String readme) throws IOException {
        Set<String> there = new TreeSet<>();
        try (Stream<Path> files = Files.list(Path.of("src/test/java"))) {
            files.map(f -> f.getFileName().toString()).filter(n -> n.endsWith("Test.java")).forEach(n -> there.add(n.replace(".java", "")));
        }
        Set<String> told = new TreeSet<>();
        Matcher row = Pattern.compile("(?m)^\\| ((?:\\w+Test(?:, )?)+) \\|").matcher(readme);
        while (row.find()) {
            told.addAll(Set.of(row.group(1).split(", ")));
        }
        CHECK.holds("the tests that it tells, " + told + ", are those that there are, " + there, told.equals(there));
    }
}
