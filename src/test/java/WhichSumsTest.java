/** Promises 11 to 14: the order of sums, the fewest, what was added, and the game's turn. */
public final class WhichSumsTest {
    private static final Check CHECK = new Check("WhichSumsTest");

    public static void main(String[] args) {
        orders();
        orderRefused();
        fewest();
        fewestRefused();
        added();
        addedRefused();
        turn();
        CHECK.end();
    }

    private static void ordered(GuardAbacus x, int slid, int[] cells, int... row) {
        Check.row(x, 1, cells);
        StringBuilder told = new StringBuilder("order of");
        for (int cell : cells) {
            told.append(' ').append(cell);
        }
        CHECK.due(told + ": slid", x.order(1, 2, 0, cells.length, -1), slid);
        for (int k = 0; k < 6; k++) {
            int due = k < row.length ? row[k] : GuardAbacus.NONE;
            CHECK.due(told + ": place " + k, x.order(1, 2, 0, cells.length, k), due);
            CHECK.due("fault", x.fault(), 0);
        }
    }

    private static void orders() {
        GuardAbacus x = Check.of("a;w90;w90");
        ordered(x, 0, new int[] {});
        ordered(x, 7, new int[] {7}, 0);
        ordered(x, 3, new int[] {9, 1}, 1, 0);
        ordered(x, 3, new int[] {1, 9}, 0, 1);
        ordered(x, 11, new int[] {5, 5}, 0, 1);
        ordered(x, 0, new int[] {0, 0, 0}, 0, 1, 2);
        ordered(x, 18, new int[] {99}, 0);
        ordered(x, GuardAbacus.NONE, new int[] {99, 1});
        ordered(x, GuardAbacus.NONE, new int[] {99999, 99999, 99999, 99999, 99999, 99999});
        ordered(x, 6, new int[] {1, 1, 1, 1, 1, 1}, 0, 1, 2, 3, 4, 5);
        /* 9, 18, 19 is 12 slid, and so is 1, 10, 19: the first row of places is told. */
        ordered(x, 12, new int[] {9, 9, 1}, 0, 1, 2);
        ordered(x, 12, new int[] {1, 9, 9}, 0, 1, 2);
        ordered(x, 12, new int[] {9, 1, 9}, 0, 2, 1);
        x.add(95);
        ordered(x, 4, new int[] {2, 2}, 0, 1);
        ordered(x, GuardAbacus.NONE, new int[] {2, 3});
        CHECK.due("nothing is changed", x.number(0), 95);
        Check.row(x, 1, 50, 3, 1, 50);
        CHECK.due("from a place on", x.order(1, 2, 1, 2, -1), 4);
        CHECK.due("places are told from i on", x.order(1, 2, 1, 2, 0), 0);
    }

    private static void orderRefused() {
        GuardAbacus x = new GuardAbacus();
        Check.row(x, 1, 7, 100000);
        CHECK.due("sheet 4", x.order(4, 3, 0, 7, 6), GuardAbacus.UNKNOWN);
        CHECK.due("sheet -1", x.order(-1, 2, 0, 1, 0), GuardAbacus.UNKNOWN);
        int[][] outside = {{3, 1, 0}, {-1, 1, 0}, {2, -1, 0}, {2, 7, 0}, {2, 1, -2}, {2, 1, 6}};
        for (int[] o : outside) {
            CHECK.due("OUTSIDE ahead of INDEX", x.order(1, o[0], -1, o[1], o[2]), GuardAbacus.OUTSIDE);
            CHECK.due("OUTSIDE ahead of NULL", x.order(2, o[0], -1, o[1], o[2]), GuardAbacus.OUTSIDE);
        }
        CHECK.fault(x, "CAST", x.order(1, 0, 9, 1, 0), 2);
        CHECK.fault(x, "NULL", x.order(2, 0, 9, 1, 0), 1);
        CHECK.fault(x, "INDEX", x.order(1, 2, 1, 2, 0), 3);
        CHECK.fault(x, "INDEX, none taken", x.order(1, 2, 3, 0, 0), 3);
        CHECK.due("STATE is ahead of the cells", x.order(1, 2, 0, 2, 0), GuardAbacus.STATE);
        CHECK.due("fault", x.fault(), 0);
        GuardAbacus y = Check.of("a;w90;w90");
        Check.row(y, 1, 99999, 100000, -1);
        CHECK.due("100000", y.order(1, 2, 0, 2, 0), GuardAbacus.OUTSIDE);
        CHECK.due("-1", y.order(1, 2, 2, 1, 0), GuardAbacus.OUTSIDE);
        CHECK.due("a cell that is not taken", y.order(1, 2, 0, 1, 0), GuardAbacus.NONE);
        Check.row(y, 1, 5, -1);
        CHECK.due("-1 behind 5", y.order(1, 2, 0, 2, 0), GuardAbacus.OUTSIDE);
    }

    private static void fewest() {
        GuardAbacus x = new GuardAbacus();
        Check.row(x, 1, 1, 10, 25, 0, 999, 4, 6, 7);
        CHECK.due("25 or three tens", x.fewest(1, 2, 0, 3, 30), 3);
        CHECK.due("0 by none", x.fewest(1, 2, 0, 3, 0), 0);
        CHECK.due("0 by none of none", x.fewest(1, 2, 0, 0, 0), 0);
        CHECK.due("1 by none of none", x.fewest(1, 2, 8, 0, 1), GuardAbacus.NONE);
        CHECK.due("999 by ones", x.fewest(1, 2, 0, 1, 999), 999);
        CHECK.due("999 at once", x.fewest(1, 2, 0, 5, 999), 1);
        CHECK.due("0 comes nowhere", x.fewest(1, 2, 3, 1, 5), GuardAbacus.NONE);
        CHECK.due("998 by 999", x.fewest(1, 2, 3, 2, 998), GuardAbacus.NONE);
        CHECK.due("5 by 4 and 6", x.fewest(1, 2, 5, 2, 5), GuardAbacus.NONE);
        CHECK.due("14 by 4, 6, 7", x.fewest(1, 2, 5, 3, 14), 2);
        CHECK.due("all eight", x.fewest(1, 2, 0, 8, 13), 2);
        GuardAbacus small = Check.of("a;w10;w10");
        Check.row(small, 1, 7);
        CHECK.due("MOST does not matter", small.fewest(1, 2, 0, 1, 700), 100);
    }

    private static void fewestRefused() {
        GuardAbacus x = new GuardAbacus();
        Check.row(x, 1, 7, 1000, -1);
        CHECK.due("sheet 4", x.fewest(4, 3, 0, 9, 1000), GuardAbacus.UNKNOWN);
        CHECK.due("sheet -1", x.fewest(-1, 2, 0, 1, 0), GuardAbacus.UNKNOWN);
        int[][] outside = {{3, 1, 0}, {-1, 1, 0}, {2, -1, 0}, {2, 9, 0}, {2, 1, -1}, {2, 1, 1000}};
        for (int[] o : outside) {
            CHECK.due("OUTSIDE ahead of INDEX", x.fewest(1, o[0], -1, o[1], o[2]), GuardAbacus.OUTSIDE);
            CHECK.due("OUTSIDE ahead of NULL", x.fewest(2, o[0], -1, o[1], o[2]), GuardAbacus.OUTSIDE);
        }
        CHECK.fault(x, "CAST", x.fewest(1, 0, 9, 1, 0), 2);
        CHECK.fault(x, "NULL", x.fewest(2, 0, 9, 1, 0), 1);
        CHECK.fault(x, "INDEX", x.fewest(1, 2, 1, 3, 0), 3);
        CHECK.fault(x, "INDEX, none taken", x.fewest(1, 2, 4, 0, 0), 3);
        CHECK.due("1000", x.fewest(1, 2, 0, 2, 0), GuardAbacus.OUTSIDE);
        CHECK.due("-1", x.fewest(1, 2, 2, 1, 0), GuardAbacus.OUTSIDE);
        CHECK.due("fault", x.fault(), 0);
        CHECK.due("a cell that is not taken", x.fewest(1, 2, 0, 1, 7), 1);
    }

    private static void addedIs(GuardAbacus x, int many, int least, int greatest, int... twos) {
        Check.row(x, 1, twos);
        StringBuilder told = new StringBuilder("added by");
        for (int cell : twos) {
            told.append(' ').append(cell);
        }
        int[] due = {many, least, greatest};
        for (int what = 0; what < 3; what++) {
            CHECK.due(told + ", what " + what, x.added(1, 2, 0, twos.length / 2, what), due[what]);
            CHECK.due("fault", x.fault(), 0);
        }
    }

    private static void added() {
        GuardAbacus x = Check.of("a;w90;w90");
        addedIs(x, 100, 0, 99);
        addedIs(x, 10, 4, 94, 0, 4);
        addedIs(x, 10, 40, 49, 1, 4);
        addedIs(x, 1, 34, 34, 0, 4, 1, 3);
        addedIs(x, 1, 34, 34, 0, 4, 1, 3, 0, 4);
        addedIs(x, 0, GuardAbacus.NONE, GuardAbacus.NONE, 0, 4, 0, 5);
        addedIs(x, 0, GuardAbacus.NONE, GuardAbacus.NONE, 0, 10);
        addedIs(x, 0, GuardAbacus.NONE, GuardAbacus.NONE, 0, -1);
        addedIs(x, 1, 0, 0, 0, 0, 1, 0);
        x.add(35);
        addedIs(x, 65, 0, 64);
        addedIs(x, 6, 9, 59, 0, 4);
        addedIs(x, 0, GuardAbacus.NONE, GuardAbacus.NONE, 1, 2);
        addedIs(x, 1, 0, 0, 0, 5, 1, 3);
        CHECK.due("nothing is changed", x.number(0), 35);
        GuardAbacus wide = Check.of("a;w90;w90;w90;w90");
        addedIs(wide, 1000, 0, 999);
        addedIs(wide, 100, 900, 999, 2, 9);
        addedIs(wide, 0, GuardAbacus.NONE, GuardAbacus.NONE, 3, 1);
        addedIs(wide, 1, 321, 321, 0, 1, 1, 2, 2, 3, 3, 0, 0, 1, 1, 2, 2, 3, 3, 0, 0, 1, 1, 2);
    }

    private static void addedRefused() {
        GuardAbacus x = new GuardAbacus();
        Check.row(x, 1, 2, 0, 0, 0);
        CHECK.due("sheet 4", x.added(4, 3, 0, 11, 3), GuardAbacus.UNKNOWN);
        CHECK.due("sheet -1", x.added(-1, 2, 0, 1, 0), GuardAbacus.UNKNOWN);
        int[][] outside = {{3, 1, 0}, {-1, 1, 0}, {2, -1, 0}, {2, 11, 0}, {2, 1, -1}, {2, 1, 3}};
        for (int[] o : outside) {
            CHECK.due("OUTSIDE ahead of INDEX", x.added(1, o[0], -1, o[1], o[2]), GuardAbacus.OUTSIDE);
            CHECK.due("OUTSIDE ahead of NULL", x.added(2, o[0], -1, o[1], o[2]), GuardAbacus.OUTSIDE);
        }
        CHECK.fault(x, "CAST", x.added(1, 0, 9, 1, 0), 2);
        CHECK.fault(x, "NULL", x.added(2, 0, 9, 1, 0), 1);
        CHECK.fault(x, "2 n cells", x.added(1, 2, 0, 3, 0), 3);
        CHECK.fault(x, "2 n cells from 1 on", x.added(1, 2, 1, 2, 0), 3);
        CHECK.fault(x, "INDEX, none taken", x.added(1, 2, 5, 0, 0), 3);
        CHECK.due("STATE is ahead of the twos", x.added(1, 2, 0, 2, 0), GuardAbacus.STATE);
        CHECK.due("fault", x.fault(), 0);
        GuardAbacus y = Check.of("a;w90;w90");
        Check.row(y, 1, 0, 1, 2, 0, -1, 0);
        CHECK.due("wire 2", y.added(1, 2, 0, 2, 0), GuardAbacus.UNKNOWN);
        CHECK.due("wire -1", y.added(1, 2, 4, 1, 0), GuardAbacus.UNKNOWN);
        CHECK.due("a two that is not taken", y.added(1, 2, 0, 1, 0), 10);
    }

    private static void turnIs(String text, int wire, int left) {
        GuardAbacus x = Check.of(text);
        CHECK.due("turn's wire of " + text, x.turn(0), wire);
        CHECK.due("turn's rest of " + text, x.turn(1), left);
    }

    private static void turn() {
        turnIs("a;w93;w94;w95", 0, 1);
        turnIs("a;w91;w92;w93", GuardAbacus.NONE, GuardAbacus.NONE);
        turnIs("a;w90;w90", GuardAbacus.NONE, GuardAbacus.NONE);
        turnIs("a;w90;w97", 1, 0);
        turnIs("a;w97;w97", GuardAbacus.NONE, GuardAbacus.NONE);
        turnIs("a;w91;w91;w91", 0, 0);
        turnIs("a;w92;w98;w93", 1, 1);
        turnIs("a;w91;w91;w91;w91;w94;w96", 5, 4);
        GuardAbacus less = Check.of("a;w90;w90;w97");
        Check.write(less, 0, 0, "a;w95;w91");
        less.frame(0, 0, 0, 9);
        CHECK.due("the wires that were are nobody's", less.turn(1), 1);
        GuardAbacus x = Check.of("a;w90;w90");
        CHECK.due("turn(2)", x.turn(2), GuardAbacus.OUTSIDE);
        CHECK.due("turn(-1)", x.turn(-1), GuardAbacus.OUTSIDE);
        GuardAbacus none = new GuardAbacus();
        CHECK.due("OUTSIDE is ahead of STATE", none.turn(2), GuardAbacus.OUTSIDE);
        CHECK.due("no frame", none.turn(1), GuardAbacus.STATE);
    }
}
