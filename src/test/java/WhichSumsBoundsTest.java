import java.util.Arrays;

/** Boundary cases of promises 11 to 14, and of part 3 of the terms: a test for each sentence that names one. */
public final class WhichSumsBoundsTest {
    private static final Check CHECK = new Check("WhichSumsBoundsTest");
    private static final int UNKNOWN = GuardAbacus.UNKNOWN, OUTSIDE = GuardAbacus.OUTSIDE, STATE = GuardAbacus.STATE;
    private static final int NONE = GuardAbacus.NONE, LEAST = Integer.MIN_VALUE, GREATEST = Integer.MAX_VALUE;
    private static final String TENS = "a;w90;w90";
    private static final String LARGEST = "a;o90;o90;o90;o90;o90;o90";
    private static final int MOST = 47045880;

    public static void main(String[] args) {
        orderedNumbers();
        orderMore();
        orderFirstRow();
        orderPlaces();
        orderLength();
        orderState();
        fewestNumbers();
        fewestOften();
        fewestWithoutFrame();
        fewestLength();
        addedNumbers();
        addedWires();
        addedAnswers();
        addedLength();
        addedState();
        turnWins();
        turnTakes();
        turnRefused();
        CHECK.end();
    }

    private static int order(GuardAbacus x, int k, int... cells) {
        Check.row(x, 1, cells);
        return x.order(1, 2, 0, cells.length, k);
    }

    private static void orderedNumbers() {
        CHECK.says("ORDER of told numbers (0 .. 99999)");
        GuardAbacus x = Check.of("a;w90;w90;w90;w90;w90;w90");
        for (int bad : new int[] {-1, 100000, LEAST, GREATEST}) {
            CHECK.due(bad + " alone", order(x, -1, bad), OUTSIDE);
            CHECK.due(bad + " behind others", order(x, -1, 1, 2, 3, 4, 5, bad), OUTSIDE);
            CHECK.due(bad + " ahead of others", order(x, 0, bad, 1), OUTSIDE);
        }
        CHECK.due("0", order(x, -1, 0), 0);
        CHECK.due("99999", order(x, -1, 99999), 45);
        CHECK.due("six of 99999", order(x, 5, 99999, 99999, 99999, 99999, 99999, 99999), 5);
        GuardAbacus small = Check.of(TENS);
        CHECK.due("OUTSIDE is ahead of NONE", order(small, -1, 99999, 100000), OUTSIDE);
        CHECK.due("99999 is NONE", order(small, -1, 99999), NONE);
    }

    private static void orderMore() {
        CHECK.says("NONE: all together are more than there is to MOST");
        GuardAbacus x = Check.of(TENS);
        for (int k = -1; k < 6; k++) {
            CHECK.due("100, k " + k, order(x, k, 50, 50), NONE);
            CHECK.due("100 in six, k " + k, order(x, k, 95, 1, 1, 1, 1, 1), NONE);
        }
        CHECK.due("99 in two", order(x, -1, 50, 49), 5 + 4 + 9);
        x.add(60);
        CHECK.due("39 from 60 on", order(x, -1, 39), 12);
        CHECK.due("40 from 60 on", order(x, -1, 40), NONE);
        x.add(39);
        CHECK.due("nothing at MOST", order(x, -1), 0);
        CHECK.due("0 at MOST", order(x, 0, 0), 0);
        CHECK.due("1 at MOST", order(x, 0, 1), NONE);
        GuardAbacus large = Check.of(LARGEST);
        large.add(MOST - 599994);
        CHECK.due("six of 99999 to MOST", order(large, 0, 99999, 99999, 99999, 99999, 99999, 99999), 0);
        large.add(1);
        CHECK.due("one beyond", order(large, 0, 99999, 99999, 99999, 99999, 99999, 99999), NONE);
    }

    private static void orderFirstRow() {
        CHECK.says("of several rows (of their places, from 0 on) the first");
        GuardAbacus x = Check.of(TENS);
        for (int k = 0; k < 6; k++) {
            CHECK.due("all alike, place " + k, order(x, k, 1, 1, 1, 1, 1, 1), k);
            CHECK.due("all 0, place " + k, order(x, k, 0, 0, 0, 0, 0, 0), k);
        }
        /* 9 first slides 9, then 9 back and 1 on; 1 first slides 1, then 1 back and 1 on. */
        CHECK.due("9 and 1: 1 first, place 0", order(x, 0, 9, 1), 1);
        CHECK.due("9 and 1: 1 first, place 1", order(x, 1, 9, 1), 0);
        CHECK.due("9 and 1: slid", order(x, -1, 9, 1), 1 + 1 + 1);
        /* A 0 may stand anywhere, so it stands by its place: as early as the least sliding lets it. */
        CHECK.due("9, 0, 1: place 0", order(x, 0, 9, 0, 1), 1);
        CHECK.due("9, 0, 1: place 1", order(x, 1, 9, 0, 1), 2);
        CHECK.due("9, 0, 1: place 2", order(x, 2, 9, 0, 1), 0);
        CHECK.due("places are from i on", placeFromThree(x), 1);
    }

    private static int placeFromThree(GuardAbacus x) {
        Check.row(x, 1, 5, 5, 5, 9, 1);
        return x.order(1, 2, 3, 2, 0);
    }

    private static void orderPlaces() {
        CHECK.says("how many are SLID together (k -1), the place k (0 .. 5) of the row; NONE: it has not so many, there is none.");
        GuardAbacus x = Check.of(TENS);
        for (int n = 0; n <= 6; n++) {
            CHECK.due(n + " ones: slid", order(x, -1, ones(n)), n);
            for (int k = 0; k < 6; k++) {
                CHECK.due(n + " ones: place " + k, order(x, k, ones(n)), k < n ? k : NONE);
            }
            for (int k : new int[] {-2, 6, LEAST, GREATEST}) {
                CHECK.due(n + " ones: place " + k, order(x, k, ones(n)), OUTSIDE);
            }
        }
    }

    private static int[] ones(int n) {
        int[] cells = new int[n];
        Arrays.fill(cells, 1);
        return cells;
    }

    private static void orderLength() {
        CHECK.says("OUTSIDE: lane, n (0 .. 6), k; FAULTS CAST, NULL, INDEX");
        GuardAbacus x = Check.of(TENS);
        x.sheet(1, 1, 60);
        x.put(1, 59, 7);
        CHECK.due("six up to the last cell", x.order(1, 1, 54, 6, -1), 7);
        CHECK.fault(x, "six beyond it", x.order(1, 1, 55, 6, -1), 3);
        CHECK.due("seven", x.order(1, 1, 0, 7, -1), OUTSIDE);
        CHECK.due("-1", x.order(1, 1, 0, -1, -1), OUTSIDE);
        CHECK.due("none from the end on", x.order(1, 1, 60, 0, -1), 0);
        CHECK.fault(x, "none from beyond", x.order(1, 1, 61, 0, -1), 3);
        CHECK.fault(x, "none from -1 on", x.order(1, 1, -1, 0, -1), 3);
        lanes(x, "order", 1);
    }

    /** Lanes of a row of shorts on sheet 1; calls with cells from 0 on, none taken. */
    private static void lanes(GuardAbacus x, String call, int lane) {
        for (int other = -1; other <= 3; other++) {
            int due = other == -1 || other == 3 ? OUTSIDE : other == lane ? 0 : -12;
            long answer = Standing.call(x, call, 1, other, 0, 0, 0);
            CHECK.holds(call + " in lane " + other + ": " + answer, due == 0 ? answer == NONE || answer >= 0 : answer == due);
            CHECK.due(call + " of nothing in lane " + other, Standing.call(x, call, 3, other, 0, 0, 0), due == OUTSIDE ? due : -11);
        }
    }

    private static void orderState() {
        CHECK.says("STATE: there is no FRAME; OUTSIDE: a cell is not 0 .. 99999.");
        GuardAbacus none = new GuardAbacus();
        CHECK.due("no frame, a cell that isn't as told", order(none, 0, -1), STATE);
        CHECK.due("no frame, no cell", order(none, -1), STATE);
        CHECK.fault(none, "no frame, no such cell", none.order(1, 2, 0, 1, 0), 3);
        GuardAbacus x = Check.of(TENS);
        Check.row(x, 1, -1, 5, 100000);
        CHECK.due("cells that are not taken don't count", x.order(1, 2, 1, 1, -1), 5);
        CHECK.due("the one ahead is taken", x.order(1, 2, 0, 2, -1), OUTSIDE);
        CHECK.due("the one behind is taken", x.order(1, 2, 1, 2, -1), OUTSIDE);
    }

    private static int fewest(GuardAbacus x, int d, int... cells) {
        Check.row(x, 1, cells);
        return x.fewest(1, 2, 0, cells.length, d);
    }

    private static void fewestNumbers() {
        CHECK.says("FEWEST of told numbers (0 .. 999) to d");
        GuardAbacus x = new GuardAbacus();
        for (int bad : new int[] {-1, 1000, LEAST, GREATEST}) {
            CHECK.due(bad + " alone", fewest(x, 0, bad), OUTSIDE);
            CHECK.due(bad + " behind others", fewest(x, 5, 1, 2, 3, 4, 5, 6, 7, bad), OUTSIDE);
        }
        CHECK.due("999 by 999", fewest(x, 999, 999), 1);
        CHECK.due("998 by 999", fewest(x, 998, 999), NONE);
        CHECK.due("0 by 999", fewest(x, 0, 999), 0);
        CHECK.due("0 by 0", fewest(x, 0, 0), 0);
        CHECK.due("1 by 0", fewest(x, 1, 0), NONE);
        CHECK.due("1 by 0 and 1", fewest(x, 1, 0, 1), 1);
    }

    private static void fewestOften() {
        CHECK.says("how many SUMS of them (each as often as one likes) make the NUMBER d more; NONE: none do"
            + " (whether MOST is come to or not)");
        GuardAbacus x = Check.of("a;w11;w11");
        CHECK.due("999 ones at MOST", fewest(x, 999, 1), 999);
        CHECK.due("none for 0 at MOST", fewest(x, 0, 1), 0);
        CHECK.due("not the greatest first", fewest(x, 12, 1, 6, 9), 2);
        CHECK.due("3 by twos", fewest(x, 3, 2), NONE);
        CHECK.due("0 of nothing", fewest(x, 0), 0);
        CHECK.due("1 of nothing", fewest(x, 1), NONE);
        CHECK.due("999 of nothing", fewest(x, 999), NONE);
        CHECK.due("the same once more is another way to it", fewest(x, 10, 5, 5), 2);
        CHECK.due("nothing is changed", x.number(0), 3);
    }

    private static void fewestWithoutFrame() {
        CHECK.says("OUTSIDE: lane, n (0 .. 8), d (0 .. 999); FAULTS CAST, NULL, INDEX; OUTSIDE: a cell is not 0 .. 999.");
        GuardAbacus x = new GuardAbacus();
        Check.row(x, 1, 3, -1);
        CHECK.due("no frame is needed", x.fewest(1, 2, 0, 1, 999), 333);
        for (int d : new int[] {-1, 1000, LEAST, GREATEST}) {
            CHECK.due("to " + d, x.fewest(1, 2, 0, 1, d), OUTSIDE);
            CHECK.due("to " + d + " of nothing", x.fewest(3, 2, 0, 1, d), OUTSIDE);
        }
        CHECK.due("to 0", x.fewest(1, 2, 0, 1, 0), 0);
        CHECK.due("a cell counts to 0, too", x.fewest(1, 2, 0, 2, 0), OUTSIDE);
        CHECK.fault(x, "INDEX is ahead of a cell", x.fewest(1, 2, 1, 2, 0), 3);
    }

    private static void fewestLength() {
        CHECK.says("FEWEST of n numbers, that are cells of a SHEET from i on, to d; NONE.");
        GuardAbacus x = new GuardAbacus();
        x.sheet(1, 1, 60);
        x.put(1, 59, 7);
        CHECK.due("eight up to the last cell", x.fewest(1, 1, 52, 8, 14), 2);
        CHECK.due("seven short of the last cell", x.fewest(1, 1, 52, 7, 14), NONE);
        CHECK.fault(x, "eight beyond it", x.fewest(1, 1, 53, 8, 14), 3);
        CHECK.due("nine", x.fewest(1, 1, 0, 9, 14), OUTSIDE);
        CHECK.due("-1", x.fewest(1, 1, 0, -1, 14), OUTSIDE);
        CHECK.due("none from the end on", x.fewest(1, 1, 60, 0, 0), 0);
        CHECK.fault(x, "none from beyond", x.fewest(1, 1, 61, 0, 0), 3);
        CHECK.fault(x, "none from -1 on", x.fewest(1, 1, -1, 0, 0), 3);
        lanes(x, "fewest", 1);
        CHECK.due("what an earlier call reached is forgotten", fewest(x, 14, 5), NONE);
        Check.row(x, 1, 7, 3, 5);
        CHECK.due("the cell ahead of them is none of them", x.fewest(1, 2, 1, 1, 14), NONE);
        CHECK.due("the cell behind them is none of them", x.fewest(1, 2, 1, 1, 5), NONE);
        CHECK.due("the cell ahead of none", x.fewest(1, 2, 1, 0, 7), NONE);
        CHECK.due("all three are", x.fewest(1, 2, 0, 3, 15), 3);
    }

    private static int added(GuardAbacus x, int what, int... cells) {
        Check.row(x, 1, cells);
        return x.added(1, 2, 0, cells.length / 2, what);
    }

    private static void addedNumbers() {
        CHECK.says("of 0 .. 999 those by whose SUM (no more than MOST) it stands so");
        GuardAbacus x = Check.of("a;w90;w90;w90;w90");
        CHECK.due("all", added(x, 0), 1000);
        CHECK.due("the least is 0", added(x, 1), 0);
        CHECK.due("the greatest is 999", added(x, 2), 999);
        CHECK.due("1000 would be none of them", added(x, 0, 3, 1), 0);
        x.add(9000);
        CHECK.due("to MOST", added(x, 0), 1000);
        CHECK.due("999 comes to MOST", added(x, 2, 0, 9, 1, 9, 2, 9), 999);
        x.add(1);
        CHECK.due("one less to MOST", added(x, 0), 999);
        CHECK.due("998 comes to MOST", added(x, 2), 998);
        x.add(998);
        CHECK.due("at MOST: by 0 alone", added(x, 0), 1);
        CHECK.due("at MOST: the least", added(x, 1, 0, 9), 0);
        CHECK.due("at MOST: the greatest", added(x, 2, 0, 9), 0);
        CHECK.due("at MOST: none", added(x, 0, 0, 0), 0);
    }

    private static void addedWires() {
        CHECK.says("two by two UNKNOWN: the first is no WIRE.");
        GuardAbacus x = Check.of(TENS);
        for (int w : new int[] {-1, 2, 5, 6, LEAST, GREATEST}) {
            CHECK.due("wire " + w, added(x, 0, w, 0), UNKNOWN);
            CHECK.due("wire " + w + " behind one that stands never so", added(x, 0, 0, 99, w, 0), UNKNOWN);
            CHECK.due("wire " + w + " as the tenth", added(x, 0, 0, 0, 0, 0, 0, 0, 0, 0, 0, 0, 0, 0, 0, 0, 0, 0, 0, 0, w, 0), UNKNOWN);
        }
        CHECK.due("wire 0", added(x, 0, 0, 0), 10);
        CHECK.due("wire 1", added(x, 0, 1, 0), 10);
        Check.row(x, 1, 2, 0, 1, 0, 2, 0);
        CHECK.due("twos that are not taken don't count", x.added(1, 2, 2, 1, 0), 10);
        CHECK.due("the one ahead is taken", x.added(1, 2, 0, 2, 0), UNKNOWN);
        CHECK.due("the one behind is taken", x.added(1, 2, 2, 2, 0), UNKNOWN);
    }

    private static void addedAnswers() {
        CHECK.says("how many (what 0), the least (1), the greatest (2); NONE (of 1, 2): there are none.");
        GuardAbacus x = Check.of(TENS);
        int[] none = {0, NONE, NONE};
        int[] some = {10, 9, 99};
        for (int what = 0; what < 3; what++) {
            CHECK.due("nine on wire 0, what " + what, added(x, what, 0, 9), some[what]);
            for (int bad : new int[] {10, -1, LEAST, GREATEST}) {
                CHECK.due(bad + " on wire 0, what " + what, added(x, what, 0, bad), none[what]);
            }
            CHECK.due("8 and 9 on wire 0, what " + what, added(x, what, 0, 8, 0, 9), none[what]);
        }
        for (int what : new int[] {-1, 3, LEAST, GREATEST}) {
            CHECK.due("what " + what, added(x, what, 0, 9), OUTSIDE);
        }
    }

    private static void addedLength() {
        CHECK.says("ADDED by n twos, that are cells of a SHEET from i on (2 n)");
        GuardAbacus x = Check.of(TENS);
        x.sheet(1, 1, 60);
        x.put(1, 59, 7);
        CHECK.due("ten up to the last cell", x.added(1, 1, 40, 10, 0), 0);
        CHECK.due("nine short of it", x.added(1, 1, 40, 9, 0), 10);
        CHECK.due("the last alone", x.added(1, 1, 58, 1, 1), 7);
        CHECK.fault(x, "ten beyond it", x.added(1, 1, 41, 10, 0), 3);
        CHECK.fault(x, "one beyond it", x.added(1, 1, 59, 1, 0), 3);
        CHECK.due("eleven", x.added(1, 1, 0, 11, 0), OUTSIDE);
        CHECK.due("-1", x.added(1, 1, 0, -1, 0), OUTSIDE);
        CHECK.due("as many as wrap to 0", x.added(1, 1, 0, LEAST, 0), OUTSIDE);
        CHECK.due("none from the end on", x.added(1, 1, 60, 0, 0), 100);
        CHECK.fault(x, "none from beyond", x.added(1, 1, 61, 0, 0), 3);
        CHECK.fault(x, "none from -1 on", x.added(1, 1, -1, 0, 0), 3);
        lanes(x, "added", 1);
        GuardAbacus three = Check.of("a;w90;w90;w90");
        Check.row(three, 1, 9, 9, 9, 0, 1, 1, 2, 2, 3);
        int[] least = {0, 1, 21, 321};
        int[] greatest = {999, 991, 921, 321};
        for (int n = 0; n <= 3; n++) {
            CHECK.due(n + " twos from 3 on: the least", three.added(1, 2, 3, n, 1), least[n]);
            CHECK.due(n + " twos from 3 on: the greatest", three.added(1, 2, 3, n, 2), greatest[n]);
        }
    }

    private static void addedState() {
        CHECK.says("OUTSIDE: lane, n (0 .. 10), what; FAULTS CAST, NULL, INDEX; STATE: there is no FRAME; two by two UNKNOWN");
        GuardAbacus none = new GuardAbacus();
        CHECK.due("no frame, no wire", added(none, 0, 0, 0), STATE);
        CHECK.due("no frame, no two", added(none, 1), STATE);
        CHECK.due("OUTSIDE is ahead of STATE", added(none, 3), OUTSIDE);
        CHECK.fault(none, "INDEX is ahead of STATE", none.added(1, 2, 0, 1, 0), 3);
        CHECK.fault(none, "CAST is ahead of STATE", none.added(1, 1, 0, 0, 0), 2);
        CHECK.fault(none, "NULL is ahead of STATE", none.added(2, 1, 0, 0, 0), 1);
    }

    private static void turnIs(String text, int wire, int left) {
        GuardAbacus x = Check.of(text);
        CHECK.due("the wire of " + text, x.turn(0), wire);
        CHECK.due("what is left of " + text, x.turn(1), left);
    }

    private static void turnWins() {
        CHECK.says("of several that on the least WIRE, and there is but one on it; NONE: there is none.");
        turnIs("a;w10;w10", NONE, NONE);
        turnIs("a;w10;w11", 1, 0);
        turnIs("a;w11;w10", 0, 0);
        turnIs("a;w11;w11", NONE, NONE);
        turnIs("a;w99;w99", NONE, NONE);
        turnIs("a;w99;w98", 0, 8);
        turnIs("a;w98;w99", 1, 8);
        turnIs("a;w92;w92;w92", 0, 0);
        turnIs("a;w90;w92;w92;w92", 1, 0);
        turnIs("a;w91;w92;w93", NONE, NONE);
        turnIs("a;w91;w92;w94", 2, 3);
        turnIs("a;w90;w90;w90;w90;w90;o99", 5, 0);
        turnIs("a;o99;o99;o99;o99;o99;o99", NONE, NONE);
    }

    private static void turnTakes() {
        CHECK.says("two by turns take some from the wall (1 or more), from one WIRE each time; who takes the last one wins.");
        GuardAbacus x = Check.of("a;o90;o90;o90;o90;o90;o90");
        for (int w = 0; w < 6; w++) {
            x.slide(w, 18);
            CHECK.due("wires up to " + w + " full: the wire", x.turn(0), w % 2 == 0 ? 0 : NONE);
            CHECK.due("wires up to " + w + " full: what is left", x.turn(1), w % 2 == 0 ? 0 : NONE);
        }
        x.slide(5, 17);
        CHECK.due("one less on the last: the wire", x.turn(0), 0);
        CHECK.due("one less on the last: what is left", x.turn(1), 17);
        CHECK.due("nothing is changed", x.number(2), 107);
    }

    private static void turnRefused() {
        CHECK.says("TURN: the WIRE (what 0), how many are left on it (1); NONE. OUTSIDE; STATE: there is no FRAME.");
        GuardAbacus none = new GuardAbacus();
        GuardAbacus x = Check.of("a;w91;w93");
        CHECK.due("what 0", x.turn(0), 1);
        CHECK.due("what 1", x.turn(1), 1);
        CHECK.due("no frame, what 0", none.turn(0), STATE);
        CHECK.due("no frame, what 1", none.turn(1), STATE);
        for (int what : new int[] {-1, 2, LEAST, GREATEST}) {
            CHECK.due("what " + what, x.turn(what), OUTSIDE);
            CHECK.due("no frame, what " + what, none.turn(what), OUTSIDE);
        }
    }
}
