/** Counts calls whose answer is not the one that is due, prints them, and ends a test with its exit code. */
final class Check {
    private final String name;
    private int asked = 0;
    private int wrong = 0;

    Check(String name) {
        this.name = name;
    }

    void due(String call, long got, long want) {
        asked++;
        if (got != want) {
            wrong++;
            if (wrong <= 40) {
                System.out.println(name + ": " + call + " answered " + got + ", due is " + want);
            }
        }
    }

    void holds(String what, boolean so) {
        due(what, so ? 1 : 0, 1);
    }

    /** The call's answer is a fault of the machine, and fault() tells it. */
    void fault(GuardAbacus x, String call, int got, int fault) {
        due(call, got, -10 - fault);
        due(call + ": fault()", x.fault(), fault);
    }

    int wrong() {
        return wrong;
    }

    void end() {
        System.out.println(name + ": " + asked + " answers, " + wrong + " not as due");
        if (wrong != 0) {
            System.exit(1);
        }
    }

    /** An object whose frame is made by the text, from sheet 0 as bytes. */
    static GuardAbacus of(String text) {
        GuardAbacus x = new GuardAbacus();
        write(x, 0, 0, text);
        int wires = x.frame(0, 0, 0, text.length());
        if (wires != (text.length() - 1) / 4) {
            throw new IllegalStateException("no frame by " + text + ": " + wires);
        }
        return x;
    }

    static void write(GuardAbacus x, int sheet, int lane, String text) {
        x.sheet(sheet, lane, text.length());
        for (int i = 0; i < text.length(); i++) {
            x.put(sheet, i, text.charAt(i));
        }
    }

    /** A sheet gets a row of ints with these numbers. */
    static void row(GuardAbacus x, int sheet, int... cells) {
        x.sheet(sheet, 2, cells.length);
        for (int i = 0; i < cells.length; i++) {
            x.put(sheet, i, cells[i]);
        }
    }
}
