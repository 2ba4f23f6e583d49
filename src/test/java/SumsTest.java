/** Promises 6 to 10: sliding, sums, takings, their work, and days that are told. */
public final class SumsTest {
    private static final Check CHECK = new Check("SumsTest");
    /* Rooms 9, 3, 4, 1, 9; worths 1, 10, 40, 200, 400; it stands at 563: 3, 0, 4, 0, 1. */
    private static final String FIVE = "a;w93;l20;o24;w10;l81";

    public static void main(String[] args) {
        slide();
        add();
        take();
        work();
        sixWires();
        dayAnswers();
        dayWithFirstWrong();
        dayRefused();
        dayPairsRefused();
        CHECK.end();
    }

    private static void stands(GuardAbacus x, String when, int... pushed) {
        for (int w = 0; w < pushed.length; w++) {
            CHECK.due(when + ": pushed on wire " + w, x.ofWire(w, 3), pushed[w]);
        }
    }

    private static void slide() {
        GuardAbacus x = Check.of(FIVE);
        CHECK.due("slide(0, 9)", x.slide(0, 9), 3);
        CHECK.due("slide(0, 10)", x.slide(0, 10), GuardAbacus.OUTSIDE);
        CHECK.due("slide(1, 3): a long one's room", x.slide(1, 3), 0);
        CHECK.due("slide(1, 4)", x.slide(1, 4), GuardAbacus.OUTSIDE);
        CHECK.due("slide(2, 0)", x.slide(2, 0), 4);
        CHECK.due("slide(2, 5)", x.slide(2, 5), GuardAbacus.OUTSIDE);
        CHECK.due("slide(0, -1)", x.slide(0, -1), GuardAbacus.OUTSIDE);
        CHECK.due("slide(5, -1)", x.slide(5, -1), GuardAbacus.UNKNOWN);
        CHECK.due("slide(-1, 0)", x.slide(-1, 0), GuardAbacus.UNKNOWN);
        stands(x, "after slides", 9, 3, 0, 0, 1);
        CHECK.due("slide to what it is", x.slide(0, 9), 9);
        CHECK.due("number", x.number(0), 439);
    }

    private static void add() {
        GuardAbacus x = Check.of(FIVE);
        CHECK.due("add(0)", x.add(0), 0);
        CHECK.due("add(7)", x.add(7), 4);
        stands(x, "570", 0, 1, 4, 0, 1);
        CHECK.due("add(30)", x.add(30), 1 + 4 + 1);
        stands(x, "600", 0, 0, 0, 1, 1);
        CHECK.due("add(-1)", x.add(-1), GuardAbacus.OUTSIDE);
        CHECK.due("add(3400)", x.add(3400), GuardAbacus.STATE);
        CHECK.due("add(the greatest int)", x.add(Integer.MAX_VALUE), GuardAbacus.STATE);
        stands(x, "still 600", 0, 0, 0, 1, 1);
        CHECK.due("add(3399)", x.add(3399), 9 + 3 + 4 + 8);
        stands(x, "MOST", 9, 3, 4, 1, 9);
        CHECK.due("add(1)", x.add(1), GuardAbacus.STATE);
        CHECK.due("add(0) at MOST", x.add(0), 0);
        GuardAbacus none = new GuardAbacus();
        CHECK.due("OUTSIDE is ahead of STATE", none.add(-1), GuardAbacus.OUTSIDE);
        CHECK.due("no frame", none.add(0), GuardAbacus.STATE);
    }

    private static void take() {
        GuardAbacus x = Check.of(FIVE);
        CHECK.due("take(0)", x.take(0), 0);
        CHECK.due("take(4)", x.take(4), 6 + 3 + 1);
        stands(x, "559", 9, 3, 3, 0, 1);
        CHECK.due("take(560)", x.take(560), GuardAbacus.STATE);
        CHECK.due("take(the greatest int)", x.take(Integer.MAX_VALUE), GuardAbacus.STATE);
        CHECK.due("take(-1)", x.take(-1), GuardAbacus.OUTSIDE);
        stands(x, "still 559", 9, 3, 3, 0, 1);
        CHECK.due("take(559)", x.take(559), 16);
        stands(x, "0", 0, 0, 0, 0, 0);
        CHECK.due("take(1)", x.take(1), GuardAbacus.STATE);
        GuardAbacus none = new GuardAbacus();
        CHECK.due("OUTSIDE is ahead of STATE", none.take(-1), GuardAbacus.OUTSIDE);
        CHECK.due("no frame", none.take(0), GuardAbacus.STATE);
    }

    private static void work() {
        GuardAbacus x = Check.of(FIVE);
        CHECK.due("work(0, 0)", x.work(0, 0), 0);
        CHECK.due("work(0, 1)", x.work(0, 1), 0);
        CHECK.due("work(7, 0)", x.work(7, 0), 4);
        CHECK.due("work(7, 1)", x.work(7, 1), 1);
        CHECK.due("work(6, 1): just as many as there is room for", x.work(6, 1), 0);
        CHECK.due("work(30, 0)", x.work(30, 0), 3);
        CHECK.due("work(30, 1)", x.work(30, 1), 0);
        CHECK.due("work(37, 0)", x.work(37, 0), 8);
        CHECK.due("work(37, 1): what went over carries on", x.work(37, 1), 3);
        CHECK.due("work(237, 1): four wires", x.work(237, 1), 4);
        CHECK.due("work(3436, 0)", x.work(3436, 0), 6 + 3 + 0 + 1 + 8);
        CHECK.due("work(3437, 0)", x.work(3437, 0), GuardAbacus.STATE);
        CHECK.due("work(the greatest int, 1)", x.work(Integer.MAX_VALUE, 1), GuardAbacus.STATE);
        CHECK.due("work(-1, 0)", x.work(-1, 0), GuardAbacus.OUTSIDE);
        CHECK.due("work(9999, 2)", x.work(9999, 2), GuardAbacus.OUTSIDE);
        CHECK.due("work(0, -1)", x.work(0, -1), GuardAbacus.OUTSIDE);
        CHECK.due("nothing is changed", x.number(0), 563);
        GuardAbacus none = new GuardAbacus();
        CHECK.due("OUTSIDE is ahead of STATE", none.work(0, 2), GuardAbacus.OUTSIDE);
        CHECK.due("no frame", none.work(0, 0), GuardAbacus.STATE);
    }

    private static void sixWires() {
        GuardAbacus x = Check.of("a;w11;w11;w11;w11;w11;w10");
        CHECK.due("work(1, 0) on six", x.work(1, 0), 6);
        CHECK.due("work(1, 1) on six", x.work(1, 1), 5);
        CHECK.due("add(1) on six", x.add(1), 6);
        stands(x, "32", 0, 0, 0, 0, 0, 1);
        CHECK.due("take(1) on six", x.take(1), 6);
        stands(x, "31", 1, 1, 1, 1, 1, 0);
        Check.write(x, 0, 0, "a;w11;w10");
        CHECK.due("two in place of six", x.frame(0, 0, 0, 9), 2);
        CHECK.due("work(1, 0) on two", x.work(1, 0), 2);
        CHECK.due("work(1, 1) on two", x.work(1, 1), 1);
        CHECK.due("the wires that were are nobody's", x.number(0), 1);
        CHECK.due("the wires that were are nobody's", x.number(2), 1);
    }

    private static void days(GuardAbacus x, int i, int n, int[] whats, int[] due) {
        for (int k = 0; k < whats.length; k++) {
            CHECK.due("day of " + n + " from " + i + ", what " + whats[k], x.day(1, 2, i, n, whats[k]), due[k]);
            CHECK.due("fault", x.fault(), 0);
        }
    }

    private static final int[] WHATS = {0, 1, 2, 3, 4, 10, 11, 12, 13, 14, 15};

    private static void dayAnswers() {
        GuardAbacus x = Check.of(FIVE);
        /* 563, then 600 (8 slid, 3 carried), 559 (as many wires as its undoing carries: 41 to 559), push wire 2 to 1. */
        Check.row(x, 1, 37, 0, 41, 1, 2, 11);
        days(x, 0, 0, WHATS, new int[] {563, -9, 0, 0, 563, 3, 0, 4, 0, 1, -9});
        days(x, 6, 0, WHATS, new int[] {563, -9, 0, 0, 563, 3, 0, 4, 0, 1, -9});
        days(x, 0, 1, WHATS, new int[] {600, -9, 8, 3, 600, 0, 0, 0, 1, 1, -9});
        days(x, 0, 2, WHATS, new int[] {559, -9, 8 + 16, 6, 600, 9, 3, 3, 0, 1, -9});
        days(x, 0, 3, WHATS, new int[] {479, -9, 8 + 16 + 2, 6, 600, 9, 3, 1, 0, 1, -9});
        days(x, 4, 1, WHATS, new int[] {443, -9, 3, 0, 563, 3, 0, 1, 0, 1, -9});
        stands(x, "nothing is changed", 3, 0, 4, 0, 1);
        int[] twenty = new int[40];
        for (int act = 0; act < 20; act++) {
            twenty[2 * act] = 1;
        }
        Check.row(x, 1, twenty);
        CHECK.due("twenty acts", x.day(1, 2, 0, 20, 0), 583);
        GuardAbacus wide = Check.of("a;o90;w90");
        Check.row(wide, 1, 0, 28, 99, 0);
        CHECK.due("18 pushed", wide.day(1, 2, 0, 1, 0), 18);
        CHECK.due("18 pushed, and a sum", wide.day(1, 2, 0, 2, 0), 117);
    }

    private static void dayWithFirstWrong() {
        GuardAbacus x = Check.of(FIVE);
        Check.row(x, 1, 3437, 0, 1, 0);
        days(x, 0, 2, WHATS, new int[] {-100, 0, -100, -100, -100, -100, -100, -100, -100, -100, -100});
        Check.row(x, 1, 3436, 0, 0, 0, 1, 0);
        days(x, 0, 3, WHATS, new int[] {-102, 2, -102, -102, -102, -102, -102, -102, -102, -102, -102});
        Check.row(x, 1, 563, 1, 0, 1, 1, 1);
        days(x, 0, 3, WHATS, new int[] {-102, 2, -102, -102, -102, -102, -102, -102, -102, -102, -102});
        Check.row(x, 1, 1, 13, 1, 14, 9, 1);
        days(x, 0, 3, WHATS, new int[] {-101, 1, -101, -101, -101, -101, -101, -101, -101, -101, -101});
        Check.row(x, 1, 0, 20, 99999, 0);
        CHECK.due("ten where nine are room", x.day(1, 2, 0, 2, 1), 0);
        Check.row(x, 1, 99999, 0);
        CHECK.due("99999 is too much", x.day(1, 2, 0, 1, 1), 0);
        Check.row(x, 1, 99999, 1);
        CHECK.due("99999 can't be taken", x.day(1, 2, 0, 1, 1), 0);
        stands(x, "nothing is changed", 3, 0, 4, 0, 1);
    }

    private static void dayRefused() {
        GuardAbacus x = new GuardAbacus();
        Check.row(x, 1, 7, 0, 30, 1);
        CHECK.due("sheet 4, all else wrong", x.day(4, 3, -1, 21, 5), GuardAbacus.UNKNOWN);
        CHECK.due("sheet -1", x.day(-1, 2, 0, 1, 0), GuardAbacus.UNKNOWN);
        int[][] outside = {{3, 1, 0}, {-1, 1, 0}, {2, -1, 0}, {2, 21, 0}, {2, 1, -1}, {2, 1, 5}, {2, 1, 9}, {2, 1, 16}};
        for (int[] o : outside) {
            CHECK.due("OUTSIDE ahead of INDEX", x.day(1, o[0], -1, o[1], o[2]), GuardAbacus.OUTSIDE);
            CHECK.due("OUTSIDE ahead of NULL", x.day(2, o[0], -1, o[1], o[2]), GuardAbacus.OUTSIDE);
        }
        CHECK.fault(x, "CAST", x.day(1, 1, -1, 1, 0), 2);
        CHECK.fault(x, "NULL", x.day(2, 1, -1, 1, 0), 1);
        CHECK.fault(x, "2 n cells", x.day(1, 2, 0, 3, 0), 3);
        CHECK.fault(x, "2 n cells from 1 on", x.day(1, 2, 1, 2, 0), 3);
        CHECK.fault(x, "i beyond, none taken", x.day(1, 2, 5, 0, 0), 3);
        CHECK.fault(x, "i below 0, none taken", x.day(1, 2, -1, 0, 0), 3);
        CHECK.due("STATE", x.day(1, 2, 0, 2, 0), GuardAbacus.STATE);
        CHECK.due("fault", x.fault(), 0);
        Check.row(x, 1, -1, 7);
        CHECK.due("STATE is ahead of the pairs", x.day(1, 2, 0, 1, 0), GuardAbacus.STATE);
    }

    private static void pairs(GuardAbacus x, int due, int... cells) {
        Check.row(x, 1, cells);
        StringBuilder call = new StringBuilder("pairs");
        for (int cell : cells) {
            call.append(' ').append(cell);
        }
        CHECK.due(call.toString(), x.day(1, 2, 0, cells.length / 2, 0), due);
        CHECK.due("first wrong of " + call, x.day(1, 2, 0, cells.length / 2, 1), due > -100 && due < 0 ? due : due < 0 ? -100 - due : -9);
    }

    private static void dayPairsRefused() {
        GuardAbacus x = Check.of(FIVE);
        pairs(x, GuardAbacus.OUTSIDE, 0, -1);
        pairs(x, GuardAbacus.OUTSIDE, 0, 2);
        pairs(x, GuardAbacus.OUTSIDE, 0, 9);
        pairs(x, GuardAbacus.OUTSIDE, 0, 29);
        pairs(x, GuardAbacus.OUTSIDE, 9, 29);
        pairs(x, GuardAbacus.OUTSIDE, -1, 0);
        pairs(x, GuardAbacus.OUTSIDE, 100000, 0);
        pairs(x, GuardAbacus.OUTSIDE, -1, 1);
        pairs(x, GuardAbacus.OUTSIDE, 100000, 1);
        pairs(x, GuardAbacus.UNKNOWN, 5, 10);
        pairs(x, GuardAbacus.UNKNOWN, -1, 28);
        pairs(x, GuardAbacus.UNKNOWN, 5, 10, 0, 2);
        pairs(x, GuardAbacus.OUTSIDE, 0, 2, 5, 10);
        pairs(x, GuardAbacus.OUTSIDE, 99999, 0, 0, 2);
        pairs(x, GuardAbacus.UNKNOWN, 99999, 0, 5, 10);
        pairs(x, -100, 0, 28);
        pairs(x, -100, 99999, 0);
        pairs(x, 560, 0, 10);
        pairs(x, 563, 0, 0);
        Check.row(x, 1, 1, 0, 0, 2);
        CHECK.due("a pair that is not taken", x.day(1, 2, 0, 1, 0), 564);
    }
}
