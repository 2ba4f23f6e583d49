import java.util.Random;

/**
 * Runs of calls, the same each time, whose answers are compared with the model's; nothing may be thrown. Every call is
 * counted, and what comes behind an object's 512th is not compared: the document leaves it free.
 */
public final class RandomRunsTest {
    private static final Check CHECK = new Check("RandomRunsTest");
    private static final int RUNS = 2000, CALLS = 512;
    private static final int[] EDGES = {Integer.MIN_VALUE, -129, -101, -2, -1, 0, 1, 2, 3, 4, 5, 6, 7, 8, 9, 10, 15, 16, 18, 19,
        20, 21, 59, 60, 61, 97, 108, 109, 255, 999, 1000, 40000, 99999, 100000, Integer.MAX_VALUE};
    private final Random dice;
    private final GuardAbacus x = new GuardAbacus();
    private final Model m = new Model();
    private final int run;
    private int calls = 0;

    private RandomRunsTest(int run) {
        this.run = run;
        this.dice = new Random(run);
    }

    public static void main(String[] args) {
        for (int run = 0; run < RUNS && CHECK.wrong() == 0; run++) {
            RandomRunsTest test = new RandomRunsTest(run);
            while (test.calls < CALLS && CHECK.wrong() == 0) {
                test.some();
            }
        }
        CHECK.end();
    }

    private int to(int most) {
        return dice.nextInt(most + 1);
    }

    /** Mostly from 0 to most, now and then something else. */
    private int about(int most) {
        int which = to(29);
        return which == 0 ? EDGES[to(EDGES.length - 1)] : which == 1 ? most + 1 : which == 2 ? -1 : to(most);
    }

    private void due(String call, long got, long want) {
        answer(call, got, want);
        answer("fault() after " + call, x.fault(), m.fault());
    }

    private void answer(String call, long got, long want) {
        calls++;
        if (want != -999 && calls <= CALLS) {
            CHECK.due("run " + run + ", call " + calls + ": " + call, got, want);
        }
    }

    /** A call for the runs' own use, counted with the others. */
    private int used(int answer) {
        calls++;
        return answer;
    }

    private void sheet(int k, int lane, int n) {
        due("sheet(" + k + ", " + lane + ", " + n + ")", x.sheet(k, lane, n), m.sheet(k, lane, n));
    }

    private void put(int k, int i, int v) {
        due("put(" + k + ", " + i + ", " + v + ")", x.put(k, i, v), m.put(k, i, v));
    }

    private void some() {
        switch (to(15)) {
            case 0 -> newFrame();
            case 1 -> told(2, 20);
            case 2 -> told(1, 6);
            case 3 -> told(0, 8);
            case 4 -> told(3, 10);
            default -> someCall();
        }
    }

    private void newFrame() {
        StringBuilder text = new StringBuilder("a");
        int wires = 1 + to(6);
        for (int w = 0; w < wires; w++) {
            int men = 1 + to(8);
            int kind = to(2);
            int room = kind == 0 ? men : kind == 1 ? men + 1 : 2 * men;
            text.append(';').append("wlo".charAt(kind)).append(men).append(Math.min(9, to(room)));
        }
        if (to(3) == 0) {
            text.setCharAt(to(text.length() - 1), "awlo;0123456789:/x".charAt(to(17)));
        }
        if (to(5) == 0) {
            text.setLength(to(text.length()));
        }
        int lane = to(2);
        int k = to(3);
        int from = to(3);
        sheet(k, lane, text.length() + from);
        for (int i = 0; i < text.length(); i++) {
            used(x.put(k, from + i, text.charAt(i) + (to(400) == 0 ? 256 : 0)));
            m.put(k, from + i, used((int) x.cell(k, from + i, lane)));
        }
        due("frame of " + text, x.frame(k, lane, from, text.length()), m.frame(k, lane, from, text.length()));
        state();
    }

    /** The state, as far as calls tell it. */
    private void state() {
        for (int what = 0; what < 3; what++) {
            answer("number(" + what + ")", x.number(what), m.number(what));
            answer("many(" + what + ")", x.many(what), m.many(what));
        }
        answer("trace()", x.trace(), m.trace());
        int what = to(4);
        for (int w = 0; w < 6; w++) {
            answer("ofWire(" + w + ", " + what + ")", x.ofWire(w, what), m.ofWire(w, what));
        }
    }

    private void told(int which, int most) {
        int lane = to(9) == 0 ? to(1) : 2;
        int k = to(3);
        int n = to(most);
        int from = to(2);
        int width = which == 1 || which == 0 ? 1 : 2;
        sheet(k, lane, Math.min(60, from + n * width));
        int scale = to(3) == 0 ? 99999 : to(2) == 0 ? 999 : to(1) == 0 ? 60 : 9;
        for (int c = 0; c < n; c++) {
            if (width == 1) {
                put(k, from + c, told1(which == 0 ? Math.min(999, scale) : scale));
            } else if (which == 2) {
                boolean push = to(2) == 0;
                put(k, from + 2 * c, push ? to(60) == 0 ? about(5) : to(Math.max(0, used(x.many(0)) - 1)) : to(scale));
                put(k, from + 2 * c + 1, to(150) == 0 ? about(40) : push ? 10 + to(to(3) == 0 ? 18 : 2) : to(1));
            } else {
                put(k, from + 2 * c, to(60) == 0 ? about(5) : to(Math.max(0, used(x.many(0)) - 1)));
                put(k, from + 2 * c + 1, to(to(1) == 0 ? 1 : 9));
            }
        }
        ask(which, k, lane, from, n);
        state();
    }

    private int told1(int scale) {
        return to(100) == 0 ? about(99999) : to(scale);
    }

    private void ask(int which, int k, int lane, int i, int n) {
        int[] whats = {0, 1, 2, 3, 4, 10, 11, 12, 13, 14, 15};
        String args = "(" + k + ", " + lane + ", " + i + ", " + n + ", ";
        if (which == 2) {
            for (int what : whats) {
                due("day" + args + what + ")", x.day(k, lane, i, n, what), m.day(k, lane, i, n, what));
            }
        } else if (which == 1) {
            for (int p = -1; p < 6; p++) {
                due("order" + args + p + ")", x.order(k, lane, i, n, p), m.order(k, lane, i, n, p));
            }
        } else if (which == 0) {
            for (int t = 0; t < 3; t++) {
                int d = to(to(1) == 0 ? 40 : 999);
                due("fewest" + args + d + ")", x.fewest(k, lane, i, n, d), m.fewest(k, lane, i, n, d));
            }
        } else {
            for (int what = 0; what < 3; what++) {
                due("added" + args + what + ")", x.added(k, lane, i, n, what), m.added(k, lane, i, n, what));
            }
        }
    }

    private void someCall() {
        int w = about(5);
        int k = about(3);
        int lane = about(2);
        int i = about(10);
        int n = about(8);
        int v = about(to(2) == 0 ? 5 : to(1) == 0 ? 99 : 5000);
        switch (to(25)) {
            case 0 -> due("ofWire(" + w + ", " + i + ")", x.ofWire(w, i), m.ofWire(w, i));
            case 1 -> due("number(" + n + ")", x.number(n), m.number(n));
            case 2 -> due("figure(" + w + ", " + v + ")", x.figure(w, v), m.figure(w, v));
            case 3, 4 -> due("slide(" + w + ", " + i + ")", x.slide(w, i), m.slide(w, i));
            case 5 -> due("add(" + v + ")", x.add(v), m.add(v));
            case 6 -> due("take(" + v + ")", x.take(v), m.take(v));
            case 7 -> workBoth(v, about(1));
            case 8 -> due("day", x.day(k, lane, i, n, v), m.day(k, lane, i, n, v));
            case 9 -> due("order", x.order(k, lane, i, n, w), m.order(k, lane, i, n, w));
            case 10 -> due("fewest", x.fewest(k, lane, i, n, v), m.fewest(k, lane, i, n, v));
            case 11 -> addedBoth(k, lane, i, n, about(2));
            case 12 -> turnBoth(about(1));
            case 13, 14 -> readingBoth(about(to(1) == 0 ? 20 : 999), w, about(to(1) == 0 ? 2 : 18));
            case 15 -> due("back(" + n + ")", x.back(n), m.back(n));
            case 16 -> setsBoth();
            case 17 -> oddsBoth(about(108), about(1));
            case 18 -> due("sheet", x.sheet(k, lane, i), m.sheet(k, lane, i));
            case 19 -> due("lose(" + k + ")", x.lose(k), m.lose(k));
            case 20 -> due("put(" + k + ", " + i + ", " + v + ")", x.put(k, i, v), m.put(k, i, v));
            case 21 -> due("cell(" + k + ", " + i + ", " + lane + ")", x.cell(k, i, lane), m.cell(k, i, lane));
            case 22 -> copyBoth(k, i, about(3), about(10), n);
            case 23 -> due("tell(" + w + ")", x.tell(w), m.tell(w));
            case 24 -> due("feel(" + w + ")", x.feel(w), m.feel(w));
            default -> due("as(" + w + ", " + lane + ")", x.as(w, lane), m.as(w, lane));
        }
        state();
    }

    private void workBoth(int v, int what) {
        due("work(" + v + ", " + what + ")", x.work(v, what), m.work(v, what));
    }

    private void addedBoth(int k, int lane, int i, int n, int what) {
        due("added", x.added(k, lane, i, n, what), m.added(k, lane, i, n, what));
    }

    private void turnBoth(int what) {
        due("turn(" + what + ")", x.turn(what), m.turn(what));
    }

    private void readingBoth(int v, int w, int figure) {
        /* Half the time what is so, or else sets would soon be empty. */
        int now = used(x.number(0));
        int so = now >= 0 && v >= 0 && v < 1000 ? used(x.figure(w, now + v)) : GuardAbacus.OUTSIDE;
        int seen = to(3) > 0 && so >= 0 ? so : figure;
        due("reading(" + v + ", " + w + ", " + seen + ")", x.reading(v, w, seen), m.reading(v, w, seen));
        setsBoth();
    }

    private void setsBoth() {
        for (int w = -1; w < 7; w++) {
            due("mens(" + w + ")", x.mens(w), m.mens(w));
            due("kinds(" + w + ")", x.kinds(w), m.kinds(w));
        }
    }

    private void oddsBoth(int n, int which) {
        due("odds(" + n + ", " + which + ")", x.odds(n, which), m.odds(n, which));
    }

    private void copyBoth(int k, int i, int other, int j, int n) {
        due("copy(" + k + ", " + i + ", " + other + ", " + j + ", " + n + ")", x.copy(k, i, other, j, n), m.copy(k, i, other, j, n));
        for (int c = 0; c < 12 && other >= 0 && other < 4; c++) {
            for (int lane = 0; lane < 3; lane++) {
                answer("cell after copy", x.cell(other, c, lane), m.cell(other, c, lane));
            }
        }
    }
}
