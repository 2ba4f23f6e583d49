import java.io.IOException;
import java.lang.reflect.Constructor;
import java.lang.reflect.Field;
import java.lang.reflect.Method;
import java.lang.reflect.Modifier;
import java.nio.file.Files;
import java.nio.file.Path;
import java.util.Arrays;
import java.util.Set;
import java.util.TreeSet;
import java.util.regex.Matcher;
import java.util.regex.Pattern;

/** The public face is the document's: its constants, its constructor, its 29 methods, and nothing else. */
public final class FaceTest {
    private static final Check CHECK = new Check("FaceTest");
    private static final String[] METHODS = {"int frame 4", "int ofWire 2", "int number 1", "int figure 2", "int slide 2",
        "int add 1", "int take 1", "int work 2", "int day 5", "int order 5", "int fewest 5", "int added 5", "int turn 1",
        "int reading 3", "int back 1", "int mens 1", "int kinds 1", "long odds 2", "int sheet 3", "int lose 1", "int put 3",
        "long cell 3", "int copy 5", "int tell 1", "int feel 1", "int as 2", "int trace 0", "int fault 0", "int many 1"};
    private static final String[] CONSTANTS = {"UNKNOWN", "OUTSIDE", "STATE", "FULL", "NONE", "LOST"};

    public static void main(String[] args) throws IOException {
        constants();
        methods();
        fieldsAndClasses();
        String document = Files.readString(Path.of("../shared/DOC.md"));
        String source = Files.readString(Path.of("src/main/java/GuardAbacus.java"));
        wordForWord(document, source);
        partsOfTheFace(document, source);
        CHECK.end();
    }

    /** Each line of the document's own face stands in the source, with its parameters' names and in its order. */
    private static void wordForWord(String document, String source) {
        int begin = document.indexOf("```java\n") + 8;
        int at = 0;
        int lines = 0;
        for (String line : document.substring(begin, document.indexOf("```", begin)).split("\n")) {
            boolean isCall = line.endsWith(");");
            String due = isCall ? line.replace(");", ") {") : line;
            if (!line.equals("}")) {
                int found = source.indexOf("\n" + due + "\n", at);
                CHECK.holds(due + " stands in its place", found >= 0);
                at = Math.max(at, found);
                lines += isCall ? 1 : 0;
            }
        }
        CHECK.due("the constructor and its methods", lines, 1 + METHODS.length);
    }

    /** "Ahead of the calls .. the interface says: ---- 1 the frame." and so on. */
    private static void partsOfTheFace(String document, String source) {
        Matcher part = Pattern.compile("Ahead of the calls (.*) the interface says: (---- \\d [a-z, ]+)\\.").matcher(document);
        int parts = 0;
        int calls = 0;
        while (part.find()) {
            parts++;
            int heading = source.indexOf("// " + part.group(2) + "\n");
            int next = source.indexOf("// ---- ", heading + 1);
            CHECK.holds(part.group(2) + " stands", heading >= 0);
            for (String call : part.group(1).replace("`", "").split(", ")) {
                calls++;
                Matcher head = Pattern.compile("public (int|long) " + call + "\\(").matcher(source);
                CHECK.holds(call + " stands behind " + part.group(2), head.find() && head.start() > heading && (next < 0 || head.start() < next));
            }
        }
        CHECK.due("parts", parts, 5);
        CHECK.due("calls in them", calls, METHODS.length);
    }

    private static void constants() {
        CHECK.due("UNKNOWN", GuardAbacus.UNKNOWN, -1);
        CHECK.due("OUTSIDE", GuardAbacus.OUTSIDE, -2);
        CHECK.due("STATE", GuardAbacus.STATE, -3);
        CHECK.due("FULL", GuardAbacus.FULL, -4);
        CHECK.due("NONE", GuardAbacus.NONE, -9);
        CHECK.due("LOST", GuardAbacus.LOST, Long.MIN_VALUE);
    }

    private static void methods() {
        Set<String> found = new TreeSet<>();
        Set<String> names = new TreeSet<>();
        for (Method m : GuardAbacus.class.getDeclaredMethods()) {
            if (Modifier.isPublic(m.getModifiers())) {
                CHECK.holds(m.getName() + " belongs to an object", !Modifier.isStatic(m.getModifiers()));
                CHECK.holds(m.getName() + " takes ints", Arrays.stream(m.getParameterTypes()).allMatch(t -> t == int.class));
                found.add(m.getReturnType() + " " + m.getName() + " " + m.getParameterCount());
                names.add(m.getName());
            }
        }
        CHECK.holds("the 29 methods: " + found, found.equals(new TreeSet<>(Arrays.asList(METHODS))));
        for (Method m : GuardAbacus.class.getDeclaredMethods()) {
            if (!Modifier.isPublic(m.getModifiers())) {
                CHECK.holds(m.getName() + " is private", Modifier.isPrivate(m.getModifiers()));
                CHECK.holds(m.getName() + " is no public name", !names.contains(m.getName()));
            }
        }
        Constructor<?>[] makers = GuardAbacus.class.getDeclaredConstructors();
        CHECK.due("constructors", makers.length, 1);
        CHECK.holds("it is public", Modifier.isPublic(makers[0].getModifiers()));
        CHECK.due("it takes nothing", makers[0].getParameterCount(), 0);
    }

    private static void fieldsAndClasses() {
        CHECK.holds("the class is public and final", (GuardAbacus.class.getModifiers() & 17) == 17);
        for (Field f : GuardAbacus.class.getDeclaredFields()) {
            boolean ofFace = Arrays.asList(CONSTANTS).contains(f.getName());
            CHECK.holds(f.getName() + " is seen as it should be", ofFace == Modifier.isPublic(f.getModifiers()));
            CHECK.holds(f.getName() + " is private or of the face", ofFace || Modifier.isPrivate(f.getModifiers()));
            CHECK.holds(f.getName() + " is final if static", !Modifier.isStatic(f.getModifiers()) || Modifier.isFinal(f.getModifiers()));
        }
        for (Class<?> c : GuardAbacus.class.getDeclaredClasses()) {
            CHECK.holds(c + " is static", Modifier.isStatic(c.getModifiers()));
            CHECK.holds(c + " is not public", !Modifier.isPublic(c.getModifiers()) && !Modifier.isProtected(c.getModifiers()));
        }
    }
}
