/** Boundary cases of promises 20 to 29, and of part 5 of the terms: a test for each sentence that names one. */
public final class SheetsBoundsTest {
    private static final Check CHECK = new Check("SheetsBoundsTest");
    private static final int UNKNOWN = GuardAbacus.UNKNOWN, OUTSIDE = GuardAbacus.OUTSIDE;
    private static final int LEAST = Integer.MIN_VALUE, GREATEST = Integer.MAX_VALUE;
    private static final String THREE = "a;w93;l20;o24";

    public static void main(String[] args) {
        rows();
        newRows();
        sheetRefused();
        cutToLane();
        lose();
        put();
        cell();
        cellOfNothing();
        copies();
        copiesAsTheyWere();
        copyNulls();
        copyCasts();
        copyIndexes();
        tellings();
        feelings();
        unknownWires();
        as();
        traceWraps();
        faults();
        CHECK.end();
    }

    private static void rows() {
        CHECK.says("a row of 0 .. 60 numbers (0 at first) of a LANE: 0 bytes, 1 shorts, 2 ints");
        for (int k = 0; k < 4; k++) {
            for (int lane = 0; lane < 3; lane++) {
                GuardAbacus x = new GuardAbacus();
                CHECK.due("a row of none", x.sheet(k, lane, 0), 1);
                CHECK.fault(x, "it has no cell", x.put(k, 0, 1), 3);
                CHECK.due("it is a row", x.lose(k), 1);
                CHECK.due("a row of sixty", x.sheet(k, lane, 60), 1);
                for (int i = 0; i < 60; i++) {
                    CHECK.due("0 at first", x.cell(k, i, lane), 0);
                }
                CHECK.due("the last cell", x.put(k, 59, 7), 1);
                CHECK.due("the last cell is told", x.cell(k, 59, lane), 7);
                CHECK.fault(x, "cell 60", x.put(k, 60, 7), 3);
                CHECK.due("a row of sixty-one", x.sheet(k, lane, 61), OUTSIDE);
                CHECK.due("leaves what it had", x.cell(k, 59, lane), 7);
            }
        }
    }

    private static void newRows() {
        CHECK.says("A SHEET gets a new row: 1.");
        GuardAbacus x = new GuardAbacus();
        Check.row(x, 0, 1, 2, 3, 4, 5);
        Check.row(x, 1, 6);
        CHECK.due("a shorter one", x.sheet(0, 2, 3), 1);
        for (int i = 0; i < 3; i++) {
            CHECK.due("0 at first", x.cell(0, i, 2), 0);
        }
        CHECK.fault(x, "what was beyond is gone", x.put(0, 3, 1), 3);
        CHECK.due("a longer one", x.sheet(0, 2, 5), 1);
        CHECK.due("what was there is not there again", x.cell(0, 4, 2), 0);
        x.put(0, 4, 9);
        CHECK.due("the same once more", x.sheet(0, 2, 5), 1);
        CHECK.due("0 at first", x.cell(0, 4, 2), 0);
        CHECK.due("one of another lane", x.sheet(0, 0, 5), 1);
        CHECK.due("is none of ints", x.cell(0, 4, 2), GuardAbacus.LOST);
        CHECK.due("CAST", x.fault(), 2);
        CHECK.due("other sheets stay", x.cell(1, 0, 2), 6);
    }

    private static void sheetRefused() {
        CHECK.says("UNKNOWN; OUTSIDE: lane, n above 60; SIZE.");
        for (int k : new int[] {-1, 4, LEAST, GREATEST}) {
            GuardAbacus x = new GuardAbacus();
            CHECK.due("sheet " + k, x.sheet(k, 0, 1), UNKNOWN);
            CHECK.due("sheet " + k + ", lane 3", x.sheet(k, 3, 1), UNKNOWN);
            CHECK.due("sheet " + k + ", 61", x.sheet(k, 0, 61), UNKNOWN);
            CHECK.due("sheet " + k + ", -1", x.sheet(k, 0, -1), UNKNOWN);
        }
        GuardAbacus x = new GuardAbacus();
        for (int lane : new int[] {-1, 3, LEAST, GREATEST}) {
            CHECK.due("lane " + lane, x.sheet(0, lane, 1), OUTSIDE);
            CHECK.due("lane " + lane + ", -1", x.sheet(0, lane, -1), OUTSIDE);
            CHECK.due("fault()", x.fault(), 0);
        }
        CHECK.due("61", x.sheet(0, 0, 61), OUTSIDE);
        CHECK.due("the greatest int", x.sheet(0, 0, GREATEST), OUTSIDE);
        CHECK.says("4 SIZE (a length below 0)");
        CHECK.fault(x, "-1", x.sheet(0, 0, -1), 4);
        CHECK.fault(x, "the least int", x.sheet(0, 0, LEAST), 4);
        CHECK.due("there is nothing yet", x.lose(0), 0);
    }

    private static void cutToLane() {
        CHECK.says("what comes to a cell of it is cut to its LANE");
        int[] told = {127, 128, 255, 256, -128, -129, -256, -257, 32767, 32768, 65535, 65536, -32768, -32769, GREATEST, LEAST};
        int[] bytes = {127, -128, -1, 0, -128, 127, 0, -1, -1, 0, -1, 0, 0, -1, -1, 0};
        int[] shorts = {127, 128, 255, 256, -128, -129, -256, -257, 32767, -32768, -1, 0, -32768, 32767, -1, 0};
        GuardAbacus x = new GuardAbacus();
        for (int lane = 0; lane < 3; lane++) {
            x.sheet(lane, lane, 1);
        }
        for (int t = 0; t < told.length; t++) {
            CHECK.due("put " + told[t], x.put(0, 0, told[t]) + x.put(1, 0, told[t]) + x.put(2, 0, told[t]), 3);
            CHECK.due(told[t] + " as a byte", x.cell(0, 0, 0), bytes[t]);
            CHECK.due(told[t] + " as a short", x.cell(1, 0, 1), shorts[t]);
            CHECK.due(told[t] + " as an int", x.cell(2, 0, 2), told[t]);
        }
    }

    private static void lose() {
        CHECK.says("A SHEET has nothing: 1; 0: it had nothing. UNKNOWN.");
        GuardAbacus x = new GuardAbacus();
        for (int k = 0; k < 4; k++) {
            CHECK.due("nothing at first", x.lose(k), 0);
            x.sheet(k, 0, 0);
            CHECK.due("a row of none is something", x.lose(k), 1);
            CHECK.due("nothing now", x.lose(k), 0);
            CHECK.fault(x, "nothing to put to", x.put(k, 0, 0), 1);
        }
        for (int k : new int[] {-1, 4, LEAST, GREATEST}) {
            CHECK.due("lose(" + k + ")", x.lose(k), UNKNOWN);
            CHECK.due("it names no fault", x.fault(), 1);
        }
        Check.row(x, 1, 5);
        Check.row(x, 2, 6);
        x.lose(1);
        CHECK.due("others stay", x.cell(2, 0, 2), 6);
    }

    private static void put() {
        CHECK.says("Cell i of a SHEET becomes v: 1. UNKNOWN; NULL; INDEX.");
        GuardAbacus x = new GuardAbacus();
        Check.row(x, 1, 5, 6, 7);
        for (int i : new int[] {-1, 3, 59, 60, LEAST, GREATEST}) {
            CHECK.fault(x, "put(1, " + i + ", 9)", x.put(1, i, 9), 3);
            CHECK.fault(x, "put(2, " + i + ", 9)", x.put(2, i, 9), 1);
            CHECK.due("put(4, " + i + ", 9)", x.put(4, i, 9), UNKNOWN);
            CHECK.due("fault()", x.fault(), 0);
            CHECK.due("put(-1, " + i + ", 9)", x.put(-1, i, 9), UNKNOWN);
        }
        cellsAre(x, 1, 5, 6, 7);
        CHECK.due("the first", x.put(1, 0, 8), 1);
        CHECK.due("the last", x.put(1, 2, 9), 1);
        cellsAre(x, 1, 8, 6, 9);
    }

    private static void cellsAre(GuardAbacus x, int k, int... due) {
        for (int i = 0; i < due.length; i++) {
            CHECK.due("cell " + i + " of sheet " + k, x.cell(k, i, 2), due[i]);
        }
    }

    private static void lost(GuardAbacus x, String call, long got, int fault) {
        CHECK.due(call, got, GuardAbacus.LOST);
        CHECK.due(call + ": fault()", x.fault(), fault);
    }

    private static void cell() {
        CHECK.says("Cell i of what a SHEET has, taken as a row of a LANE. LOST: UNKNOWN, OUTSIDE: lane");
        for (int lane = 0; lane < 3; lane++) {
            GuardAbacus x = new GuardAbacus();
            x.sheet(0, lane, 3);
            x.put(0, 0, 5);
            x.put(0, 2, 7);
            CHECK.due("the first", x.cell(0, 0, lane), 5);
            CHECK.due("the last", x.cell(0, 2, lane), 7);
            for (int i : new int[] {-1, 3, 59, 60, LEAST, GREATEST}) {
                lost(x, "cell(0, " + i + ", " + lane + ")", x.cell(0, i, lane), 3);
                lost(x, "as another lane", x.cell(0, i, (lane + 1) % 3), 2);
                lost(x, "as another lane", x.cell(0, i, (lane + 2) % 3), 2);
                lost(x, "lane 3", x.cell(0, i, 3), 0);
                lost(x, "lane -1", x.cell(0, i, -1), 0);
                lost(x, "sheet 4", x.cell(4, i, lane), 0);
                lost(x, "sheet -1", x.cell(-1, i, 3), 0);
            }
            CHECK.due("still there", x.cell(0, 2, lane), 7);
            CHECK.due("fault()", x.fault(), 0);
        }
    }

    private static void cellOfNothing() {
        CHECK.says("FAULTS CAST (nothing is no CAST), NULL, INDEX.");
        GuardAbacus x = new GuardAbacus();
        x.sheet(1, 1, 1);
        x.lose(1);
        for (int lane = 0; lane < 3; lane++) {
            lost(x, "nothing, lane " + lane, x.cell(0, 0, lane), 1);
            lost(x, "nothing, no such cell, lane " + lane, x.cell(0, -1, lane), 1);
            lost(x, "a row of shorts that is lost, lane " + lane, x.cell(1, 0, lane), 1);
        }
        x.sheet(2, 1, 0);
        lost(x, "a row of none", x.cell(2, 0, 1), 3);
        lost(x, "a row of none as ints", x.cell(2, 0, 2), 2);
    }

    private static void copies() {
        CHECK.says("n cells of a SHEET from i on go to another one (perhaps the same) from j on, as they were: n.");
        GuardAbacus x = new GuardAbacus();
        x.sheet(0, 0, 60);
        x.sheet(3, 0, 60);
        for (int i = 0; i < 60; i++) {
            x.put(0, i, i + 1);
        }
        CHECK.due("all sixty", x.copy(0, 0, 3, 0, 60), 60);
        CHECK.due("the first", x.cell(3, 0, 0), 1);
        CHECK.due("the last", x.cell(3, 59, 0), 60);
        CHECK.due("one to the last", x.copy(0, 0, 3, 59, 1), 1);
        CHECK.due("it is there", x.cell(3, 59, 0), 1);
        CHECK.due("the one ahead stays", x.cell(3, 58, 0), 59);
        CHECK.due("none from the end on", x.copy(0, 60, 3, 60, 0), 0);
        CHECK.due("none from 0 on", x.copy(0, 0, 3, 0, 0), 0);
        CHECK.due("the first stays", x.cell(3, 0, 0), 1);
        CHECK.due("on itself", x.copy(0, 0, 0, 0, 60), 60);
        CHECK.due("fault()", x.fault(), 0);
        for (int lane = 0; lane < 3; lane++) {
            GuardAbacus none = new GuardAbacus();
            none.sheet(0, lane, 0);
            none.sheet(1, lane, 0);
            CHECK.due("none of none", none.copy(0, 0, 1, 0, 0), 0);
            CHECK.fault(none, "one of none", none.copy(0, 0, 1, 0, 1), 3);
        }
    }

    private static void copiesAsTheyWere() {
        CHECK.says("(perhaps the same) from j on, as they were");
        GuardAbacus x = new GuardAbacus();
        Check.row(x, 0, 1, 2, 3, 4, 5);
        CHECK.due("one up", x.copy(0, 0, 0, 1, 4), 4);
        cellsAre(x, 0, 1, 1, 2, 3, 4);
        CHECK.due("one down", x.copy(0, 1, 0, 0, 4), 4);
        cellsAre(x, 0, 1, 2, 3, 4, 4);
        Check.row(x, 1, GREATEST, LEAST);
        CHECK.due("to another", x.copy(1, 0, 0, 3, 2), 2);
        cellsAre(x, 0, 1, 2, 3, GREATEST, LEAST);
        cellsAre(x, 1, GREATEST, LEAST);
    }

    private static void copyNulls() {
        CHECK.says("UNKNOWN; FAULTS NULL (the first, the other)");
        GuardAbacus x = new GuardAbacus();
        Check.row(x, 0, 1, 2);
        for (int k : new int[] {-1, 4, LEAST, GREATEST}) {
            CHECK.due("from sheet " + k, x.copy(k, 0, 0, 0, 1), UNKNOWN);
            CHECK.due("to sheet " + k, x.copy(0, 0, k, 0, 1), UNKNOWN);
            CHECK.due("from nothing to sheet " + k, x.copy(3, 0, k, 0, 1), UNKNOWN);
            CHECK.due("from sheet " + k + " to nothing", x.copy(k, -1, 3, 0, 1), UNKNOWN);
            CHECK.due("fault()", x.fault(), 0);
        }
        CHECK.fault(x, "the first", x.copy(3, 0, 0, 0, 1), 1);
        CHECK.fault(x, "the other", x.copy(0, 0, 3, 0, 1), 1);
        CHECK.fault(x, "the same", x.copy(3, 0, 3, 0, 1), 1);
        CHECK.fault(x, "none of nothing", x.copy(3, 0, 0, 0, 0), 1);
        CHECK.fault(x, "ahead of INDEX", x.copy(0, -1, 3, -1, -1), 1);
    }

    private static void copyCasts() {
        CHECK.says("CAST (unlike LANES)");
        GuardAbacus x = new GuardAbacus();
        for (int lane = 0; lane < 3; lane++) {
            x.sheet(lane, lane, 2);
        }
        for (int from = 0; from < 3; from++) {
            for (int to = 0; to < 3; to++) {
                CHECK.due("from lane " + from + " to " + to, x.copy(from, 0, to, 0, 1), from == to ? 1 : -12);
                CHECK.due("fault()", x.fault(), from == to ? 0 : 2);
                CHECK.due("none from lane " + from + " to " + to, x.copy(from, 0, to, 0, 0), from == to ? 0 : -12);
                CHECK.due("no such cells", x.copy(from, -1, to, 9, -1), from == to ? -13 : -12);
            }
        }
    }

    private static void copyIndexes() {
        CHECK.says("INDEX: i, j, n below 0 or beyond.");
        int[][] beyond = {{-1, 0, 1}, {0, -1, 1}, {0, 0, -1}, {3, 0, 1}, {0, 2, 1}, {0, 0, 3}, {2, 0, 2}, {0, 1, 2}, {4, 0, 0}, {0, 3, 0},
            {-1, 0, 0}, {0, -1, 0}, {LEAST, 0, 1}, {0, LEAST, 1}, {0, 0, LEAST}, {GREATEST, 0, 1}, {0, GREATEST, 1}, {0, 0, GREATEST},
            {GREATEST, GREATEST, GREATEST}, {LEAST, LEAST, LEAST}, {1, 1, GREATEST}};
        GuardAbacus x = new GuardAbacus();
        Check.row(x, 0, 1, 2, 3);
        Check.row(x, 1, 4, 5);
        for (int[] t : beyond) {
            CHECK.fault(x, "from " + t[0] + " to " + t[1] + " of " + t[2], x.copy(0, t[0], 1, t[1], t[2]), 3);
        }
        cellsAre(x, 1, 4, 5);
        CHECK.due("none from both ends on", x.copy(0, 3, 1, 2, 0), 0);
        CHECK.due("up to both ends", x.copy(0, 1, 1, 0, 2), 2);
        cellsAre(x, 1, 2, 3);
        cellsAre(x, 0, 1, 2, 3);
    }

    private static void tellings() {
        CHECK.says("PLAIN (1): MEN. LONG (2): what PLAIN's gives, and 100. WINDOWED (3): what LONG's gives, and what PLAIN's gives"
            + " (LONG's left out).");
        int[] trace = {1, 2 * 31 + 1, ((3 * 31 + 2) * 31 + 1) * 31 + 1};
        for (int men = 1; men <= 9; men++) {
            int[] due = {men, men + 100, men + 100 + men};
            for (int kind = 0; kind < 3; kind++) {
                GuardAbacus x = Check.of("a;w50;" + "wlo".charAt(kind) + men + "1");
                CHECK.due("kind " + kind + " of " + men, x.tell(1), due[kind]);
                CHECK.due("its trace", x.trace(), trace[kind]);
            }
        }
    }

    private static void feelings() {
        CHECK.says("FELT by a lent body (4): PUSHED; WINDOWED ones have their own (5): 90.");
        GuardAbacus x = Check.of(THREE);
        int[] room = {9, 3, 4};
        int trace = 0;
        for (int w = 0; w < 3; w++) {
            for (int pushed = 0; pushed <= room[w]; pushed++) {
                x.slide(w, pushed);
                CHECK.due("wire " + w + " with " + pushed, x.feel(w), w == 2 ? 90 : pushed);
                trace = 31 * trace + (w == 2 ? 5 : 4);
                CHECK.due("its trace", x.trace(), trace);
            }
        }
    }

    private static void unknownWires() {
        CHECK.says("TELLING of a WIRE. UNKNOWN.");
        GuardAbacus x = Check.of(THREE);
        x.tell(0);
        for (int w : new int[] {-1, 3, 5, 6, LEAST, GREATEST}) {
            CHECK.due("tell(" + w + ")", x.tell(w), UNKNOWN);
            CHECK.due("no trace of it", x.trace(), 1);
        }
        CHECK.due("no frame", new GuardAbacus().tell(0), UNKNOWN);
        CHECK.says("How it is FELT. UNKNOWN.");
        for (int w : new int[] {-1, 3, 5, 6, LEAST, GREATEST}) {
            CHECK.due("feel(" + w + ")", x.feel(w), UNKNOWN);
            CHECK.due("no trace of it", x.trace(), 1);
        }
        CHECK.due("no frame", new GuardAbacus().feel(0), UNKNOWN);
    }

    private static void as() {
        CHECK.says("UNKNOWN; OUTSIDE; CAST: it is none (each is a PLAIN one, too; a WINDOWED one is a LONG one).");
        GuardAbacus x = Check.of(THREE);
        int[][] due = {{1, -12, -12}, {1, 1, -12}, {1, 1, 1}};
        for (int w = 0; w < 3; w++) {
            for (int kind = 0; kind < 3; kind++) {
                CHECK.due("as(" + w + ", " + kind + ")", x.as(w, kind), due[w][kind]);
                CHECK.due("fault()", x.fault(), due[w][kind] == 1 ? 0 : 2);
            }
            for (int kind : new int[] {-1, 3, LEAST, GREATEST}) {
                CHECK.due("as(" + w + ", " + kind + ")", x.as(w, kind), OUTSIDE);
                CHECK.due("fault()", x.fault(), 0);
            }
        }
        for (int w : new int[] {-1, 3, LEAST, GREATEST}) {
            CHECK.due("as(" + w + ", 2)", x.as(w, 2), UNKNOWN);
            CHECK.due("as(" + w + ", 3)", x.as(w, 3), UNKNOWN);
        }
        CHECK.due("no frame", new GuardAbacus().as(0, 0), UNKNOWN);
        CHECK.due("it leaves no trace", x.trace(), 0);
    }

    private static void traceWraps() {
        CHECK.says("TRACE (an int that wraps, 0 at first, becomes 31 times it and the number)");
        GuardAbacus x = Check.of(THREE);
        CHECK.due("0 at first", x.trace(), 0);
        /* The seventh would be 4585435685. */
        int[] due = {5, 160, 4965, 153920, 4771525, 147917280, 290468389, 414585472, -32752251, -1015319776};
        for (int t = 0; t < due.length; t++) {
            x.feel(2);
            CHECK.due("5 so often: " + (t + 1), x.trace(), due[t]);
        }
    }

    private static void faults() {
        CHECK.says("Of a call the first that is come to, in the order told; it answers -10 less it");
        GuardAbacus x = new GuardAbacus();
        CHECK.due("0 ahead of any", x.fault(), 0);
        CHECK.due("1 NULL", x.put(0, 0, 0), -11);
        CHECK.due("it is told", x.fault(), 1);
        x.sheet(0, 0, 1);
        CHECK.due("a call that comes to none", x.fault(), 0);
        CHECK.due("2 CAST", x.frame(0, 1, 0, 0), -12);
        CHECK.due("it is told", x.fault(), 2);
        CHECK.due("3 INDEX", x.put(0, 1, 0), -13);
        CHECK.due("it is told", x.fault(), 3);
        CHECK.due("4 SIZE", x.frame(0, 0, 0, -1), -14);
        CHECK.due("it is told", x.fault(), 4);
        CHECK.due("it is told again", x.fault(), 4);
        CHECK.due("refused", x.sheet(4, 0, 1), UNKNOWN);
        CHECK.due("a call that is refused", x.fault(), 0);
        CHECK.says("(LOST, where a long is answered, as for refusals)");
        lost(x, "NULL", x.cell(1, 0, 0), 1);
        lost(x, "CAST", x.cell(0, 0, 1), 2);
        lost(x, "INDEX", x.cell(0, 1, 0), 3);
        lost(x, "UNKNOWN", x.cell(4, 0, 0), 0);
        lost(x, "OUTSIDE", x.cell(0, 0, 3), 0);
    }
}
