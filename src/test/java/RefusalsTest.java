import java.util.ArrayList;
import java.util.Arrays;
import java.util.List;

/**
 * Terms: refusals and faults. Each call's line is told here as the troubles that it names, in its order: each alone, and
 * every two at once, is answered by the one told first, leaves all as it was, and fault() as the document says.
 */
public final class RefusalsTest {
    private static final Check CHECK = new Check("RefusalsTest");
    private static final int LEAST = Integer.MIN_VALUE, GREATEST = Integer.MAX_VALUE;
    private static final int UNKNOWN = -1, OUTSIDE = -2, STATE = -3, FULL = -4, NULL = -11, CAST = -12, INDEX = -13, SIZE = -14;
    private static final String[] NAME_FAULTS = {"frame", "day", "order", "fewest", "added", "sheet", "put", "cell", "copy", "as"};
    private static final String[] ANSWER_LONGS = {"odds", "cell"};

    /** An argument of another value, or (arg -1) another state. */
    private record Trouble(int answer, int arg, int value) {
    }

    private final String name;
    private final int[] taken;
    private final List<Trouble> troubles = new ArrayList<>();

    /** A call, and arguments by which it is taken where all stands. */
    private RefusalsTest(String name, int... taken) {
        this.name = name;
        this.taken = taken;
    }

    private RefusalsTest at(int answer, int arg, int... values) {
        for (int value : values) {
            troubles.add(new Trouble(answer, arg, value));
        }
        return this;
    }

    private RefusalsTest in(int answer, int state) {
        troubles.add(new Trouble(answer, -1, state));
        return this;
    }

    /** A wire that is not there, and no frame at all. */
    private RefusalsTest noWire(int arg) {
        return at(UNKNOWN, arg, -1, 3, LEAST, GREATEST).in(UNKNOWN, Standing.BARE);
    }

    private RefusalsTest noSheet(int arg) {
        return at(UNKNOWN, arg, -1, 4, LEAST, GREATEST);
    }

    private RefusalsTest outside(int arg, int below, int above) {
        return at(OUTSIDE, arg, below, above, LEAST, GREATEST);
    }

    /** NULL stands ahead of CAST here, though lines tell CAST first: nothing is no CAST. */
    private RefusalsTest rowOfInts() {
        return at(NULL, 0, 3).at(CAST, 1, 0, 1);
    }

    private RefusalsTest noCells(int... beyond) {
        return at(INDEX, 2, -1, Standing.CELLS.length, Standing.CELLS.length + 1, LEAST, GREATEST).at(INDEX, 3, beyond);
    }

    public static void main(String[] args) {
        CHECK.says("REFUSALS, in the order in which a call's line tells them");
        lines().forEach(RefusalsTest::eachAlone);
        CHECK.says("they change nothing (but fault(), of a call that names FAULTS)");
        lines().forEach(RefusalsTest::everyTwo);
        CHECK.says("from how all is now (nothing is changed)");
        questions();
        CHECK.says("The FAULT of the latest call that names one: 0: it came to none, or was refused (0 ahead of any).");
        lines().forEach(RefusalsTest::faultOfTaken);
        CHECK.due("every call but new, trace, fault", lines().size(), 27);
        CHECK.due("ahead of any", new GuardAbacus().fault(), 0);
        CHECK.end();
    }

    private static List<RefusalsTest> lines() {
        List<RefusalsTest> all = new ArrayList<>();
        frameLines(all);
        sumLines(all);
        whichSumLines(all);
        howItStoodLines(all);
        sheetLines(all);
        return all;
    }

    private static void frameLines(List<RefusalsTest> all) {
        all.add(new RefusalsTest("frame", 0, 0, 0, 13).noSheet(0).outside(1, -1, 3).at(NULL, 0, 3).at(CAST, 1, 1, 2)
            .at(SIZE, 3, -1, LEAST).at(INDEX, 2, -1, 1, 13, 14, LEAST, GREATEST).at(INDEX, 3, 14, GREATEST));
        all.add(new RefusalsTest("ofWire", 0, 0).noWire(0).outside(1, -1, 5));
        all.add(new RefusalsTest("number", 0).outside(0, -1, 3).in(STATE, Standing.BARE));
        all.add(new RefusalsTest("figure", 0, 0).noWire(0).outside(1, -1, 200));
        all.add(new RefusalsTest("many", 0).outside(0, -1, 3));
    }

    private static void sumLines(List<RefusalsTest> all) {
        all.add(new RefusalsTest("slide", 0, 0).noWire(0).outside(1, -1, 10));
        all.add(new RefusalsTest("add", 36).at(OUTSIDE, 0, -1, LEAST).in(STATE, Standing.BARE).at(STATE, 0, 37, GREATEST));
        all.add(new RefusalsTest("take", 163).at(OUTSIDE, 0, -1, LEAST).in(STATE, Standing.BARE).at(STATE, 0, 164, GREATEST));
        all.add(new RefusalsTest("work", 36, 0).at(OUTSIDE, 0, -1, LEAST).outside(1, -1, 2).in(STATE, Standing.BARE)
            .at(STATE, 0, 37, GREATEST));
        all.add(new RefusalsTest("day", 1, 2, 0, 1, 0).noSheet(0).outside(1, -1, 3).outside(3, -1, 21)
            .at(OUTSIDE, 3, 1 << 30, 1 << 31).outside(4, -1, 5).at(OUTSIDE, 4, 9, 16).rowOfInts().noCells(8, 20)
            .in(STATE, Standing.BARE).at(OUTSIDE, 2, 2, 4, 6).at(UNKNOWN, 2, 8, 10));
    }

    private static void whichSumLines(List<RefusalsTest> all) {
        all.add(new RefusalsTest("order", 1, 2, 0, 1, -1).noSheet(0).outside(1, -1, 3).outside(3, -1, 7).outside(4, -2, 6)
            .rowOfInts().noCells().in(STATE, Standing.BARE).at(OUTSIDE, 2, 4, 6));
        all.add(new RefusalsTest("fewest", 1, 2, 0, 1, 7).noSheet(0).outside(1, -1, 3).outside(3, -1, 9).outside(4, -1, 1000)
            .rowOfInts().noCells().at(OUTSIDE, 2, 4, 6, 12));
        all.add(new RefusalsTest("added", 1, 2, 2, 1, 0).noSheet(0).outside(1, -1, 3).outside(3, -1, 11).at(OUTSIDE, 3, 1 << 30, 1 << 31)
            .outside(4, -1, 3).rowOfInts().noCells(8, 10).in(STATE, Standing.BARE).at(UNKNOWN, 2, 0, 4, 6, 8, 10));
        all.add(new RefusalsTest("turn", 0).outside(0, -1, 2).in(STATE, Standing.BARE));
    }

    private static void howItStoodLines(List<RefusalsTest> all) {
        all.add(new RefusalsTest("reading", 0, 0, 0).noWire(1).outside(0, -1, 1000).outside(2, -1, 19).in(FULL, Standing.FULL));
        all.add(new RefusalsTest("back", 2).outside(0, -1, 3));
        all.add(new RefusalsTest("mens", 0).noWire(0));
        all.add(new RefusalsTest("kinds", 0).noWire(0));
        all.add(new RefusalsTest("odds", 0, 0).outside(0, -1, 109).outside(1, -1, 2).in(STATE, Standing.BARE));
    }

    private static void sheetLines(List<RefusalsTest> all) {
        all.add(new RefusalsTest("sheet", 1, 2, 3).noSheet(0).outside(1, -1, 3).at(OUTSIDE, 2, 61, GREATEST).at(SIZE, 2, -1, LEAST));
        all.add(new RefusalsTest("lose", 1).noSheet(0));
        all.add(new RefusalsTest("put", 1, 13, 5).noSheet(0).at(NULL, 0, 3).at(INDEX, 1, -1, 14, LEAST, GREATEST));
        all.add(new RefusalsTest("cell", 1, 13, 2).noSheet(0).outside(2, -1, 3).at(NULL, 0, 3).at(CAST, 2, 0, 1)
            .at(INDEX, 1, -1, 14, LEAST, GREATEST));
        all.add(new RefusalsTest("copy", 1, 0, 1, 1, 13).noSheet(0).noSheet(2).at(NULL, 0, 3).at(NULL, 2, 3).at(CAST, 2, 0, 2)
            .at(INDEX, 1, -1, 2, LEAST, GREATEST).at(INDEX, 3, -1, 2, LEAST, GREATEST).at(INDEX, 4, -1, 14, LEAST, GREATEST));
        all.add(new RefusalsTest("tell", 2).noWire(0));
        all.add(new RefusalsTest("feel", 2).noWire(0));
        all.add(new RefusalsTest("as", 0, 0).noWire(0).outside(1, -1, 3).at(CAST, 1, 1, 2));
    }

    private void eachAlone() {
        long answer = Standing.call(Standing.make(Standing.FRAMED, 4), name, taken);
        CHECK.holds(name + Arrays.toString(taken) + " is taken: " + answer, answer >= 0);
        for (Trouble t : troubles) {
            answers(t, t);
        }
    }

    private void everyTwo() {
        for (int first = 0; first < troubles.size(); first++) {
            for (int second = first + 1; second < troubles.size(); second++) {
                if (troubles.get(first).arg != troubles.get(second).arg) {
                    answers(troubles.get(first), troubles.get(second));
                }
            }
        }
    }

    private void answers(Trouble first, Trouble second) {
        int[] a = taken.clone();
        int state = Standing.FRAMED;
        for (Trouble t : List.of(second, first)) {
            if (t.arg < 0) {
                state = t.value;
            } else {
                a[t.arg] = t.value;
            }
        }
        boolean names = Arrays.asList(NAME_FAULTS).contains(name);
        boolean isLong = Arrays.asList(ANSWER_LONGS).contains(name);
        for (int before : new int[] {1, 4}) {
            GuardAbacus x = Standing.make(state, before);
            String call = name + Arrays.toString(a) + " in state " + state;
            CHECK.due(call, Standing.call(x, name, a), isLong ? GuardAbacus.LOST : first.answer);
            int fault = first.answer <= NULL ? -10 - first.answer : 0;
            CHECK.due(call + ": fault()", x.fault(), names ? fault : before);
            CHECK.holds(call + " leaves all as it was", Standing.told(x).equals(Standing.told(Standing.make(state, before))));
        }
    }

    /** Questions that are answered leave all as it was, too. */
    private static void questions() {
        int[][] days = {{1, 2, 0, 1, 0}, {1, 2, 0, 1, 2}, {1, 2, 0, 1, 12}, {1, 2, 0, 0, 1}};
        for (int[] day : days) {
            leaves("day", day);
        }
        for (RefusalsTest line : lines()) {
            boolean changes = List.of("frame", "slide", "add", "take", "reading", "back", "sheet", "lose", "put", "copy", "tell",
                "feel").contains(line.name);
            if (!changes) {
                leaves(line.name, line.taken);
            }
        }
        leaves("trace");
        leaves("fault");
    }

    private static void leaves(String name, int... a) {
        GuardAbacus x = Standing.make(Standing.FRAMED, 1);
        Standing.call(x, name, a);
        boolean same = Standing.told(x).equals(Standing.told(Standing.make(Standing.FRAMED, 1)));
        CHECK.holds(name + Arrays.toString(a) + " changes nothing", same);
    }

    private void faultOfTaken() {
        boolean names = Arrays.asList(NAME_FAULTS).contains(name);
        for (int before : new int[] {1, 4}) {
            GuardAbacus x = Standing.make(Standing.FRAMED, before);
            Standing.call(x, name, taken);
            CHECK.due(name + " is taken: fault()", x.fault(), names ? 0 : before);
            CHECK.due(name + " is taken: fault() again", x.fault(), names ? 0 : before);
        }
    }
}
