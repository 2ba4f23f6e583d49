/** Boundary cases of promises 6 to 10, and of part 2 of the terms: a test for each sentence that names one. */
public final class SumsBoundsTest {
    private static final Check CHECK = new Check("SumsBoundsTest");
    private static final int UNKNOWN = GuardAbacus.UNKNOWN, OUTSIDE = GuardAbacus.OUTSIDE, STATE = GuardAbacus.STATE;
    private static final int NONE = GuardAbacus.NONE, LEAST = Integer.MIN_VALUE, GREATEST = Integer.MAX_VALUE;
    /* Rooms 9, 3, 4; worths 1, 10, 40; MOST 199; it stands at 163: 3, 0, 4. */
    private static final String THREE = "a;w93;l20;o24";
    private static final String LARGEST = "a;o90;o90;o90;o90;o90;o90";
    private static final int MOST = 47045880;
    private static final int[] WHATS = {0, 1, 2, 3, 4, 10, 11, 12, 13, 14, 15};

    public static void main(String[] args) {
        slide();
        add();
        take();
        slid();
        carried();
        work();
        dayTells();
        dayPushes();
        dayLength();
        dayWhats();
        dayCells();
        firstWrong();
        firstWrongAnswers();
        daySlidAndCarried();
        dayGreatest();
        daysWires();
        pairSeconds();
        pairFirsts();
        pairWires();
        pairByPair();
        lastCall();
        CHECK.end();
    }

    private static void slide() {
        CHECK.says("PUSHED of a WIRE becomes v (0 .. ROOM): what it was. UNKNOWN; OUTSIDE.");
        GuardAbacus x = Check.of(THREE);
        int[] room = {9, 3, 4};
        int[] was = {3, 0, 4};
        for (int w = 0; w < 3; w++) {
            for (int v : new int[] {-1, room[w] + 1, LEAST, GREATEST}) {
                CHECK.due("slide(" + w + ", " + v + ")", x.slide(w, v), OUTSIDE);
                CHECK.due("wire " + w + " as it was", x.ofWire(w, 3), was[w]);
            }
            CHECK.due("wire " + w + " to its room", x.slide(w, room[w]), was[w]);
            CHECK.due("wire " + w + " to none", x.slide(w, 0), room[w]);
            CHECK.due("wire " + w + " as it is", x.slide(w, 0), 0);
        }
        CHECK.due("all are at 0", x.number(0), 0);
        CHECK.due("wire 3", x.slide(3, 0), UNKNOWN);
        CHECK.due("wire -1", x.slide(-1, 0), UNKNOWN);
        CHECK.due("both", x.slide(3, -1), UNKNOWN);
        CHECK.due("no frame", new GuardAbacus().slide(0, 0), UNKNOWN);
    }

    private static void add() {
        CHECK.says("A SUM of v (0 or more): how many are SLID. OUTSIDE; STATE: there is no FRAME, it would be more than MOST.");
        GuardAbacus x = Check.of(THREE);
        for (int v : new int[] {-1, LEAST}) {
            CHECK.due("add(" + v + ")", x.add(v), OUTSIDE);
        }
        for (int v : new int[] {37, GREATEST, GREATEST - 163, GREATEST - 162}) {
            CHECK.due("add(" + v + ")", x.add(v), STATE);
            CHECK.due("as it was", x.number(0), 163);
        }
        CHECK.due("add(0)", x.add(0), 0);
        CHECK.due("add(36) to MOST", x.add(36), 6 + 3);
        CHECK.due("MOST", x.number(0), 199);
        CHECK.due("add(1) at MOST", x.add(1), STATE);
        CHECK.due("add(0) at MOST", x.add(0), 0);
        CHECK.due("MOST still", x.number(0), 199);
        GuardAbacus none = new GuardAbacus();
        CHECK.due("no frame, 0", none.add(0), STATE);
        CHECK.due("no frame, -1", none.add(-1), OUTSIDE);
    }

    private static void take() {
        CHECK.says("A TAKING of v (0 or more): how many are SLID. OUTSIDE; STATE: there is no FRAME, it would be below 0.");
        GuardAbacus x = Check.of(THREE);
        for (int v : new int[] {-1, LEAST}) {
            CHECK.due("take(" + v + ")", x.take(v), OUTSIDE);
        }
        for (int v : new int[] {164, GREATEST}) {
            CHECK.due("take(" + v + ")", x.take(v), STATE);
            CHECK.due("as it was", x.number(0), 163);
        }
        CHECK.due("take(0)", x.take(0), 0);
        CHECK.due("take(163) to 0", x.take(163), 7);
        CHECK.due("0", x.number(0), 0);
        CHECK.due("take(1) at 0", x.take(1), STATE);
        CHECK.due("take(0) at 0", x.take(0), 0);
        GuardAbacus none = new GuardAbacus();
        CHECK.due("no frame, 0", none.take(0), STATE);
        CHECK.due("no frame, -1", none.take(-1), OUTSIDE);
    }

    private static void slid() {
        CHECK.says("SLID: how far all FIGURES together are from what they were.");
        GuardAbacus x = Check.of(LARGEST);
        CHECK.due("from 0 to MOST", x.add(MOST), 108);
        CHECK.due("from MOST to 0", x.take(MOST), 108);
        CHECK.due("to 18", x.add(18), 18);
        CHECK.due("over the edge: back and on", x.add(1), 18 + 1);
        CHECK.due("and back", x.take(1), 18 + 1);
        x.add(MOST / 19 - 18);
        CHECK.due("one short of the highest wire", x.number(2), 5 * 18);
        CHECK.due("one more", x.add(1), 5 * 18 + 1);
    }

    private static void carried() {
        CHECK.says("CARRIED: from how many WIRES something goes over to the next one, as FIGURES of both are put together"
            + " (what went over to it, too)");
        GuardAbacus x = Check.of(LARGEST);
        CHECK.due("to MOST at once: nothing", x.work(MOST, 1), 0);
        x.slide(0, 18);
        CHECK.due("one over on wire 0", x.work(1, 1), 1);
        for (int w = 1; w < 5; w++) {
            x.slide(w, 18);
            CHECK.due("it goes over on " + (w + 1) + " wires", x.work(1, 1), w + 1);
        }
        x.slide(2, 17);
        CHECK.due("room for what comes", x.work(1, 1), 2);
        CHECK.due("as much as room on wire 2", x.work(361, 1), 0);
        CHECK.due("put together with what went over", x.work(362, 1), 5);
        GuardAbacus two = Check.of("a;l85;w10");
        CHECK.due("5 and 4 have room in 9", two.work(4, 1), 0);
        CHECK.due("5 and 5 have not", two.work(5, 1), 1);
    }

    private static void work() {
        CHECK.says("How many would be SLID (what 0), CARRIED (1) by a SUM of v. OUTSIDE: v, what;"
            + " STATE: there is no FRAME, it would be more than MOST.");
        GuardAbacus x = Check.of(THREE);
        GuardAbacus none = new GuardAbacus();
        for (int what = 0; what < 2; what++) {
            CHECK.due("work(-1, " + what + ")", x.work(-1, what), OUTSIDE);
            CHECK.due("work(least, " + what + ")", x.work(LEAST, what), OUTSIDE);
            CHECK.due("work(0, " + what + ")", x.work(0, what), 0);
            CHECK.due("work(36, " + what + ")", x.work(36, what), what == 0 ? 9 : 0);
            CHECK.due("work(37, " + what + ")", x.work(37, what), STATE);
            CHECK.due("work(greatest, " + what + ")", x.work(GREATEST, what), STATE);
            CHECK.due("no frame: work(0, " + what + ")", none.work(0, what), STATE);
        }
        for (int what : new int[] {-1, 2, LEAST, GREATEST}) {
            CHECK.due("work(0, " + what + ")", x.work(0, what), OUTSIDE);
            CHECK.due("work(37, " + what + ")", x.work(37, what), OUTSIDE);
            CHECK.due("no frame: work(0, " + what + ")", none.work(0, what), OUTSIDE);
        }
        CHECK.due("as it was", x.number(0), 163);
    }

    private static int dayOf(GuardAbacus x, int what, int... cells) {
        Check.row(x, 1, cells);
        return x.day(1, 2, 0, cells.length / 2, what);
    }

    private static int[] pairs(int n, int first, int second) {
        int[] cells = new int[2 * n];
        for (int act = 0; act < n; act++) {
            cells[2 * act] = first;
            cells[2 * act + 1] = second;
        }
        return cells;
    }

    private static void dayTells() {
        CHECK.says("v (0 .. 99999) and 0: a SUM; and 1: a TAKING");
        GuardAbacus x = Check.of(LARGEST);
        CHECK.due("a SUM of 0", dayOf(x, 0, 0, 0), 0);
        CHECK.due("a SUM of 99999", dayOf(x, 0, 99999, 0), 99999);
        CHECK.due("a SUM of 100000", dayOf(x, 0, 100000, 0), OUTSIDE);
        CHECK.due("a SUM of -1", dayOf(x, 0, -1, 0), OUTSIDE);
        x.add(MOST);
        CHECK.due("a TAKING of 0", dayOf(x, 0, 0, 1), MOST);
        CHECK.due("a TAKING of 99999", dayOf(x, 0, 99999, 1), MOST - 99999);
        CHECK.due("a TAKING of 100000", dayOf(x, 0, 100000, 1), OUTSIDE);
        CHECK.due("a TAKING of -1", dayOf(x, 0, -1, 1), OUTSIDE);
        CHECK.due("nothing is changed", x.number(0), MOST);
    }

    private static void dayPushes() {
        CHECK.says("a WIRE and 10 .. 28: PUSHED of it becomes that less 10 (ROOM at most)");
        GuardAbacus x = Check.of(LARGEST);
        x.slide(5, 4);
        CHECK.due("10: none", dayOf(x, 15, 5, 10), 0);
        CHECK.due("28: eighteen", dayOf(x, 15, 5, 28), 18);
        CHECK.due("29", dayOf(x, 15, 5, 29), OUTSIDE);
        CHECK.due("9", dayOf(x, 15, 5, 9), OUTSIDE);
        CHECK.due("wire 0", dayOf(x, 10, 0, 28), 18);
        CHECK.due("wire 6", dayOf(x, 10, 6, 28), UNKNOWN);
        GuardAbacus y = Check.of(THREE);
        int[] room = {9, 3, 4};
        for (int w = 0; w < 3; w++) {
            CHECK.due("wire " + w + " to its room", dayOf(y, 10 + w, w, 10 + room[w]), room[w]);
            CHECK.due("wire " + w + " to one more", dayOf(y, 10 + w, w, 11 + room[w]), -100);
            CHECK.due("wire " + w + " to 18", dayOf(y, 1, w, 28), 0);
        }
        CHECK.due("nothing is changed", y.number(0), 163);
    }

    private static void dayLength() {
        CHECK.says("A DAY of n pairs, that are cells of a SHEET from i on (2 n)");
        GuardAbacus x = Check.of(LARGEST);
        x.sheet(1, 2, 60);
        for (int act = 0; act < 30; act++) {
            x.put(1, 2 * act, 99999);
        }
        CHECK.due("none", x.day(1, 2, 0, 0, 0), 0);
        CHECK.due("one", x.day(1, 2, 0, 1, 0), 99999);
        CHECK.due("twenty", x.day(1, 2, 0, 20, 0), 20 * 99999);
        CHECK.due("twenty up to the last cell", x.day(1, 2, 20, 20, 0), 20 * 99999);
        CHECK.fault(x, "twenty beyond it", x.day(1, 2, 21, 20, 0), 3);
        CHECK.due("twenty-one", x.day(1, 2, 0, 21, 0), OUTSIDE);
        CHECK.due("-1", x.day(1, 2, 0, -1, 0), OUTSIDE);
        CHECK.due("as many as wrap to 0", x.day(1, 2, 0, LEAST, 0), OUTSIDE);
        CHECK.due("as many as wrap to 2", x.day(1, 2, 0, LEAST + 1, 0), OUTSIDE);
    }

    private static void dayWhats() {
        CHECK.says("OUTSIDE: lane, n (0 .. 20), what (0 .. 4, 10 .. 15)");
        GuardAbacus x = Check.of(LARGEST);
        Check.row(x, 1, 7, 0);
        for (int what = -3; what <= 20; what++) {
            boolean isTold = what >= 0 && what <= 4 || what >= 10 && what <= 15;
            int answer = x.day(1, 2, 0, 1, what);
            CHECK.holds("what " + what + " answers " + answer, isTold ? answer >= 0 || what == 1 && answer == NONE : answer == OUTSIDE);
        }
        CHECK.due("the least what", x.day(1, 2, 0, 1, LEAST), OUTSIDE);
        CHECK.due("the greatest what", x.day(1, 2, 0, 1, GREATEST), OUTSIDE);
        for (int lane = -1; lane <= 3; lane++) {
            int due = lane == -1 || lane == 3 ? OUTSIDE : lane == 2 ? 7 : -12;
            CHECK.due("lane " + lane, x.day(1, lane, 0, 1, 0), due);
        }
    }

    private static void dayCells() {
        CHECK.says("FAULTS CAST, NULL, INDEX; STATE: there is no FRAME; pair by pair OUTSIDE");
        GuardAbacus x = Check.of(THREE);
        Check.row(x, 1, 7, 0, 30);
        CHECK.due("one pair of three cells", x.day(1, 2, 0, 1, 0), 170);
        CHECK.fault(x, "two pairs of three cells", x.day(1, 2, 0, 2, 0), 3);
        CHECK.fault(x, "a pair from the last cell on", x.day(1, 2, 2, 1, 0), 3);
        CHECK.due("a pair from cell 1 on: 30 is no act", x.day(1, 2, 1, 1, 0), OUTSIDE);
        CHECK.due("none from the end on", x.day(1, 2, 3, 0, 0), 163);
        CHECK.fault(x, "none from beyond", x.day(1, 2, 4, 0, 0), 3);
        CHECK.fault(x, "none from -1 on", x.day(1, 2, -1, 0, 0), 3);
        x.sheet(1, 0, 0);
        CHECK.due("none of none", x.day(1, 0, 0, 0, 0), 163);
        CHECK.fault(x, "one of none", x.day(1, 0, 0, 1, 0), 3);
        GuardAbacus bare = new GuardAbacus();
        bare.sheet(1, 0, 0);
        CHECK.due("none of none, no frame", bare.day(1, 0, 0, 0, 1), STATE);
        CHECK.fault(bare, "INDEX is ahead of STATE", bare.day(1, 0, 1, 0, 1), 3);
        CHECK.fault(bare, "CAST is ahead of STATE", bare.day(1, 2, 1, 0, 1), 2);
        CHECK.fault(bare, "NULL is ahead of STATE", bare.day(2, 2, 1, 0, 1), 1);
    }

    private static void firstWrong() {
        CHECK.says("FIRST WRONG: the first act that can't be.");
        GuardAbacus x = Check.of(THREE);
        CHECK.due("no act", dayOf(x, 1), NONE);
        CHECK.due("up to MOST", dayOf(x, 1, 36, 0), NONE);
        CHECK.due("more than MOST", dayOf(x, 1, 37, 0), 0);
        CHECK.due("more than MOST by two acts", dayOf(x, 1, 36, 0, 1, 0), 1);
        CHECK.due("down to 0", dayOf(x, 1, 163, 1), NONE);
        CHECK.due("below 0", dayOf(x, 1, 164, 1), 0);
        CHECK.due("below 0 by two acts", dayOf(x, 1, 163, 1, 1, 1), 1);
        CHECK.due("down, then up to MOST", dayOf(x, 1, 163, 1, 199, 0), NONE);
        CHECK.due("down, then up beyond MOST", dayOf(x, 1, 163, 1, 200, 0), 1);
        CHECK.due("pushed to 0, then below 0", dayOf(x, 1, 2, 10, 4, 1), 1);
        CHECK.due("of two the first", dayOf(x, 1, 0, 0, 37, 0, 164, 1), 1);
        CHECK.due("what can't be would mend the next", dayOf(x, 1, 164, 1, 37, 0), 0);
        int[] twenty = pairs(20, 0, 0);
        twenty[38] = 37;
        CHECK.due("the twentieth", dayOf(x, 1, twenty), 19);
        CHECK.due("the twentieth, what 0", dayOf(x, 0, twenty), -119);
    }

    private static void firstWrongAnswers() {
        CHECK.says("of one with a FIRST WRONG: -100 less that (but what 1)");
        GuardAbacus x = Check.of(THREE);
        for (int what : WHATS) {
            CHECK.due("the first, what " + what, dayOf(x, what, 37, 0, 1, 1), what == 1 ? 0 : -100);
            CHECK.due("the second, what " + what, dayOf(x, what, 1, 1, 0, 20), what == 1 ? 1 : -101);
            CHECK.due("fault()", x.fault(), 0);
        }
        CHECK.due("nothing is changed", x.number(0), 163);
    }

    private static void daySlidAndCarried() {
        CHECK.says("how many are SLID in it (2; by what is PUSHED, too), how many CARRIED by its SUMS and TAKINGS (3)");
        GuardAbacus x = Check.of(THREE);
        CHECK.due("no act slides", dayOf(x, 2), 0);
        CHECK.due("no act carries", dayOf(x, 3), 0);
        CHECK.due("pushing up slides", dayOf(x, 2, 0, 19), 6);
        CHECK.due("pushing down slides", dayOf(x, 2, 2, 10), 4);
        CHECK.due("pushing carries nothing", dayOf(x, 3, 0, 19, 2, 10), 0);
        CHECK.due("pushing to what it is", dayOf(x, 2, 0, 13), 0);
        CHECK.due("away and back", dayOf(x, 2, 0, 10, 0, 13), 6);
        CHECK.due("20 acts of 18", dayOf(Check.of(LARGEST), 2, alternating()), 20 * 18);
        CHECK.says("by a TAKING: as many as by the SUM that undoes it");
        GuardAbacus y = Check.of("a;w11;w11;w11;w11;w11;w10");
        CHECK.due("a SUM carries on five wires", dayOf(y, 3, 1, 0), 5);
        CHECK.due("its TAKING as many", dayOf(y, 3, 1, 0, 1, 1), 10);
        CHECK.due("a TAKING that needs none", dayOf(y, 3, 31, 1), 0);
        CHECK.due("a TAKING of 0", dayOf(y, 3, 0, 1), 0);
    }

    private static int[] alternating() {
        int[] cells = pairs(20, 5, 28);
        for (int act = 1; act < 20; act += 2) {
            cells[2 * act + 1] = 10;
        }
        return cells;
    }

    private static void dayGreatest() {
        CHECK.says("the greatest NUMBER there is in it, ahead of it or behind any act (4)");
        GuardAbacus x = Check.of(THREE);
        CHECK.due("no act: ahead of it", dayOf(x, 4), 163);
        CHECK.due("only takings: ahead of it", dayOf(x, 4, 1, 1, 1, 1), 163);
        CHECK.due("behind the first", dayOf(x, 4, 36, 0, 1, 1), 199);
        CHECK.due("behind the last", dayOf(x, 4, 1, 1, 2, 0), 164);
        CHECK.due("behind one that is pushed", dayOf(x, 4, 1, 13, 1, 10), 193);
    }

    private static void daysWires() {
        CHECK.says("PUSHED of WIRE w then (10 and w; NONE: there is no such WIRE)");
        GuardAbacus two = Check.of("a;w11;w91");
        int[] due = {0, 2, NONE, NONE, NONE, NONE};
        GuardAbacus six = Check.of("a;w11;w11;w10;w11;w10;w91");
        int[] dueOfSix = {0, 0, 1, 1, 0, 1};
        for (int w = 0; w < 6; w++) {
            CHECK.due("wire " + w + " of two", dayOf(two, 10 + w, 1, 0), due[w]);
            CHECK.due("wire " + w + " of six", dayOf(six, 10 + w, 1, 0), dueOfSix[w]);
        }
        CHECK.due("wire 6", dayOf(six, 16, 1, 0), OUTSIDE);
    }

    private static void pairSeconds() {
        CHECK.says("the second is none of 0, 1, 10 .. 28");
        GuardAbacus x = Check.of(LARGEST);
        x.add(1);
        for (int second = -3; second <= 32; second++) {
            boolean isAct = second == 0 || second == 1 || second >= 10 && second <= 28;
            CHECK.due("act " + second, dayOf(x, 1, 1, second), isAct ? NONE : OUTSIDE);
        }
        CHECK.due("the least act", dayOf(x, 1, 1, LEAST), OUTSIDE);
        CHECK.due("the greatest act", dayOf(x, 1, 1, GREATEST), OUTSIDE);
    }

    private static void pairFirsts() {
        CHECK.says("it is 0 or 1 and the first is not 0 .. 99999");
        GuardAbacus x = Check.of(LARGEST);
        x.add(MOST - 99999);
        for (int second = 0; second < 2; second++) {
            for (int first : new int[] {-1, 100000, LEAST, GREATEST}) {
                CHECK.due(first + " and " + second, dayOf(x, 1, first, second), OUTSIDE);
            }
            for (int first : new int[] {0, 99999}) {
                CHECK.due(first + " and " + second, dayOf(x, 1, first, second), NONE);
            }
        }
        GuardAbacus small = Check.of(THREE);
        CHECK.due("OUTSIDE, not a FIRST WRONG", dayOf(small, 1, 100000, 0), OUTSIDE);
        CHECK.due("a FIRST WRONG, not OUTSIDE", dayOf(small, 1, 99999, 0), 0);
    }

    private static void pairWires() {
        CHECK.says("UNKNOWN: the first is no WIRE (of 10 .. 28)");
        GuardAbacus x = Check.of(THREE);
        for (int second : new int[] {10, 13, 28}) {
            for (int first : new int[] {-1, 3, 5, 6, LEAST, GREATEST}) {
                CHECK.due(first + " and " + second, dayOf(x, 1, first, second), UNKNOWN);
            }
        }
        for (int first = 0; first < 3; first++) {
            CHECK.due(first + " and 13", dayOf(x, 1, first, 13), NONE);
        }
        CHECK.due("of a SUM it is no WIRE", dayOf(x, 1, 3, 0), NONE);
        CHECK.due("29 is OUTSIDE ahead of UNKNOWN", dayOf(x, 1, 3, 29), OUTSIDE);
    }

    private static void pairByPair() {
        CHECK.says("pair by pair OUTSIDE: the second is none of 0, 1, 10 .. 28");
        GuardAbacus x = Check.of(THREE);
        CHECK.due("UNKNOWN, then OUTSIDE", dayOf(x, 0, 3, 10, 0, 2), UNKNOWN);
        CHECK.due("OUTSIDE, then UNKNOWN", dayOf(x, 0, 0, 2, 3, 10), OUTSIDE);
        CHECK.due("behind a FIRST WRONG: OUTSIDE", dayOf(x, 0, 37, 0, 0, 2), OUTSIDE);
        CHECK.due("behind a FIRST WRONG: UNKNOWN", dayOf(x, 1, 37, 0, 3, 10), UNKNOWN);
        int[] twenty = pairs(20, 0, 0);
        twenty[39] = 2;
        CHECK.due("the twentieth", dayOf(x, 0, twenty), OUTSIDE);
        CHECK.due("the twentieth is not taken", x.day(1, 2, 0, 19, 0), 163);
        CHECK.due("no wire 0 .. 5 needed for what 15", dayOf(x, 15, 3, 10), UNKNOWN);
    }

    private static void lastCall() {
        CHECK.says("An object is used for at most 512 calls after it has been made");
        /* A sheet, nine cells and the frame: eleven calls. */
        GuardAbacus x = Check.of("a;w90;w90");
        for (int call = 12; call < 512; call++) {
            int ones = (call - 12) % 100;
            boolean full = ones == 99;
            CHECK.due("call " + call, full ? x.take(99) : x.add(1), full ? 18 : ones % 10 == 9 ? 10 : 1);
        }
        CHECK.due("call 512", x.add(99), 18);
    }
}
