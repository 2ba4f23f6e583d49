import java.io.IOException;
import java.io.UncheckedIOException;
import java.nio.file.Files;
import java.nio.file.Path;

/** Counts calls whose answer is not the one that is due, prints them, and ends a test with its exit code. */
final class Check {
    private static final Path DOCUMENT = Path.of("../shared/DOC.md");
    private final String name;
    private String document = null;
    private String sentence = "";
    private int sentences = 0;
    private int askedAtSentence = 0;
    private int asked = 0;
    private int wrong = 0;

    Check(String name) {
        this.name = name;
    }

    /** What follows tests these words of the document: they must stand there, and something must be asked for them. */
    void says(String words) {
        closeSentence();
        if (document == null) {
            document = plain(read());
        }
        sentence = words;
        sentences++;
        holds("the document says so", document.contains(plain(words)));
        askedAtSentence = asked;
    }

    private void closeSentence() {
        if (!sentence.isEmpty()) {
            holds("something is asked", asked > askedAtSentence);
        }
        sentence = "";
    }

    private static String read() {
        try {
            return Files.readString(DOCUMENT);
        } catch (IOException e) {
            throw new UncheckedIOException(e);
        }
    }

    private static String plain(String words) {
        return words.replaceAll("\\s+", " ");
    }

    void due(String call, long got, long want) {
        asked++;
        if (got != want) {
            wrong++;
            if (wrong <= 40) {
                String of = sentence.isEmpty() ? "" : " \"" + sentence + "\"";
                System.out.println(name + ":" + of + " " + call + " answered " + got + ", due is " + want);
            }
        }
    }

    void holds(String what, boolean so) {
        due(what, so ? 1 : 0, 1);
    }

    /** The call's answer is a fault of the machine, and fault() tells it. */
    void fault(GuardAbacus x, String call, int got, int fault) {
        due(call, got, -10 - fault);
        due(call + ": fault()", x.fault(), fault);
    }

    int wrong() {
        return wrong;
    }

    void end() {
        closeSentence();
        String of = sentences == 0 ? "" : " for " + sentences + " sentences";
        System.out.println(name + ": " + asked + " answers" + of + ", " + wrong + " not as due");
        if (wrong != 0) {
            System.exit(1);
        }
    }

    /** An object whose frame is made by the text, from sheet 0 as bytes. */
    static GuardAbacus of(String text) {
        GuardAbacus x = new GuardAbacus();
        write(x, 0, 0, text);
        int wires = x.frame(0, 0, 0, text.length());
        if (wires != (text.length() - 1) / 4) {
            throw new IllegalStateException("no frame by " + text + ": " + wires);
        }
        return x;
    }

    static void write(GuardAbacus x, int sheet, int lane, String text) {
        x.sheet(sheet, lane, text.length());
        for (int i = 0; i < text.length(); i++) {
            x.put(sheet, i, text.charAt(i));
        }
    }

    /** A sheet gets a row of ints with these numbers. */
    static void row(GuardAbacus x, int sheet, int... cells) {
        x.sheet(sheet, 2, cells.length);
        for (int i = 0; i < cells.length; i++) {
            x.put(sheet, i, cells[i]);
        }
    }
}
