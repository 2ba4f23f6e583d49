/** Promises 20 to 29: sheets, their cells, the wires' telling and feeling, trace and fault. */
public final class SheetsTest {
    private static final Check CHECK = new Check("SheetsTest");

    public static void main(String[] args) {
        sheet();
        lose();
        putAndCell();
        lanes();
        cellFaults();
        copies();
        copyFaults();
        tell();
        feel();
        as();
        traceWraps();
        faultOfTheLatest();
        CHECK.end();
    }

    private static void sheet() {
        GuardAbacus x = new GuardAbacus();
        CHECK.due("sheet(4, 3, 61)", x.sheet(4, 3, 61), GuardAbacus.UNKNOWN);
        CHECK.due("sheet(-1, 0, 1)", x.sheet(-1, 0, 1), GuardAbacus.UNKNOWN);
        CHECK.due("sheet(0, 3, -1)", x.sheet(0, 3, -1), GuardAbacus.OUTSIDE);
        CHECK.due("sheet(0, -1, 1)", x.sheet(0, -1, 1), GuardAbacus.OUTSIDE);
        CHECK.due("sheet(0, 0, 61)", x.sheet(0, 0, 61), GuardAbacus.OUTSIDE);
        CHECK.fault(x, "sheet(0, 0, -1)", x.sheet(0, 0, -1), 4);
        CHECK.due("still nothing", x.lose(0), 0);
        CHECK.due("sheet(0, 0, 0)", x.sheet(0, 0, 0), 1);
        CHECK.due("fault", x.fault(), 0);
        CHECK.due("a row of none is a row", x.lose(0), 1);
        CHECK.due("sheet(3, 2, 60)", x.sheet(3, 2, 60), 1);
        CHECK.due("the last cell", x.put(3, 59, -5), 1);
        CHECK.due("the first cell", x.put(3, 0, 5), 1);
        CHECK.fault(x, "a length below 0 leaves it", x.sheet(3, 1, -1), 4);
        CHECK.due("the last cell", x.cell(3, 59, 2), -5);
        CHECK.due("a new row", x.sheet(3, 1, 60), 1);
        CHECK.due("0 at first", x.cell(3, 59, 1), 0);
        CHECK.due("0 at first", x.cell(3, 0, 1), 0);
    }

    private static void lose() {
        GuardAbacus x = new GuardAbacus();
        CHECK.due("lose(4)", x.lose(4), GuardAbacus.UNKNOWN);
        CHECK.due("lose(-1)", x.lose(-1), GuardAbacus.UNKNOWN);
        CHECK.due("nothing", x.lose(2), 0);
        x.sheet(2, 1, 3);
        x.put(2, 1, 8);
        CHECK.due("something", x.lose(2), 1);
        CHECK.due("nothing again", x.lose(2), 0);
        CHECK.fault(x, "put to nothing", x.put(2, 1, 8), 1);
        x.lose(2);
        CHECK.due("lose names no fault", x.fault(), 1);
        x.sheet(2, 1, 3);
        CHECK.due("0 at first", x.cell(2, 1, 1), 0);
    }

    private static void putAndCell() {
        GuardAbacus x = new GuardAbacus();
        CHECK.due("put(4, ..)", x.put(4, 0, 0), GuardAbacus.UNKNOWN);
        CHECK.due("put(-1, ..)", x.put(-1, 0, 0), GuardAbacus.UNKNOWN);
        CHECK.fault(x, "NULL is ahead of INDEX", x.put(0, -1, 0), 1);
        x.sheet(0, 2, 3);
        CHECK.fault(x, "put(0, 3, 1)", x.put(0, 3, 1), 3);
        CHECK.fault(x, "put(0, -1, 1)", x.put(0, -1, 1), 3);
        CHECK.fault(x, "put(0, least, 1)", x.put(0, Integer.MIN_VALUE, 1), 3);
        CHECK.fault(x, "put(0, greatest, 1)", x.put(0, Integer.MAX_VALUE, 1), 3);
        CHECK.due("put(0, 2, 1)", x.put(0, 2, 1), 1);
        CHECK.due("fault", x.fault(), 0);
        CHECK.due("cell(0, 2, 2)", x.cell(0, 2, 2), 1);
        x.sheet(1, 0, 0);
        CHECK.fault(x, "a row of none", x.put(1, 0, 1), 3);
    }

    private static void lanes() {
        GuardAbacus x = new GuardAbacus();
        int[] told = {0, 127, 128, 255, 256, -128, -129, 32767, 32768, 65536, -32769, Integer.MAX_VALUE, Integer.MIN_VALUE};
        for (int lane = 0; lane < 3; lane++) {
            x.sheet(lane, lane, 1);
            for (int v : told) {
                x.put(lane, 0, v);
                long due = lane == 0 ? (byte) v : lane == 1 ? (short) v : v;
                CHECK.due(v + " cut to lane " + lane, x.cell(lane, 0, lane), due);
            }
        }
        x.put(0, 0, 353);
        CHECK.due("353 as a byte is an a", x.frame(0, 0, 0, 1), -101);
    }

    private static void lost(GuardAbacus x, String call, long got, int fault) {
        CHECK.due(call, got, GuardAbacus.LOST);
        CHECK.due(call + ": fault()", x.fault(), fault);
    }

    private static void cellFaults() {
        GuardAbacus x = new GuardAbacus();
        x.sheet(0, 1, 2);
        lost(x, "INDEX", x.cell(0, 2, 1), 3);
        lost(x, "UNKNOWN", x.cell(4, 0, 1), 0);
        lost(x, "INDEX", x.cell(0, -1, 1), 3);
        lost(x, "UNKNOWN", x.cell(-1, 0, 1), 0);
        lost(x, "CAST is ahead of INDEX", x.cell(0, 2, 0), 2);
        lost(x, "OUTSIDE", x.cell(0, 0, 3), 0);
        lost(x, "nothing is no CAST", x.cell(1, -1, 0), 1);
        lost(x, "OUTSIDE is ahead of NULL", x.cell(1, 0, -1), 0);
        CHECK.due("a cell", x.cell(0, 1, 1), 0);
    }

    private static void filled(GuardAbacus x, int sheet, int lane, int n) {
        x.sheet(sheet, lane, n);
        for (int i = 0; i < n; i++) {
            x.put(sheet, i, 10 * (sheet + 1) + i);
        }
    }

    private static void reads(GuardAbacus x, int sheet, int lane, int... due) {
        for (int i = 0; i < due.length; i++) {
            CHECK.due("cell " + i + " of sheet " + sheet, x.cell(sheet, i, lane), due[i]);
        }
    }

    private static void copies() {
        GuardAbacus x = new GuardAbacus();
        filled(x, 0, 0, 5);
        filled(x, 1, 0, 4);
        CHECK.due("copy to another", x.copy(0, 1, 1, 2, 2), 2);
        reads(x, 1, 0, 20, 21, 11, 12);
        reads(x, 0, 0, 10, 11, 12, 13, 14);
        CHECK.due("copy up on itself", x.copy(0, 0, 0, 1, 4), 4);
        reads(x, 0, 0, 10, 10, 11, 12, 13);
        CHECK.due("copy down on itself", x.copy(0, 2, 0, 0, 3), 3);
        reads(x, 0, 0, 11, 12, 13, 12, 13);
        CHECK.due("copy of none at the ends", x.copy(0, 5, 1, 4, 0), 0);
        CHECK.due("copy of all", x.copy(1, 0, 0, 1, 4), 4);
        reads(x, 0, 0, 11, 20, 21, 11, 12);
        CHECK.due("fault", x.fault(), 0);
    }

    private static void copyFaults() {
        GuardAbacus x = new GuardAbacus();
        filled(x, 0, 2, 5);
        filled(x, 1, 2, 4);
        filled(x, 2, 1, 4);
        CHECK.due("first sheet 4", x.copy(4, 0, 0, 0, 1), GuardAbacus.UNKNOWN);
        CHECK.due("first sheet -1", x.copy(-1, 0, 3, 0, 1), GuardAbacus.UNKNOWN);
        CHECK.due("other sheet 4 is ahead of NULL", x.copy(3, 0, 4, 0, 1), GuardAbacus.UNKNOWN);
        CHECK.due("other sheet -1", x.copy(0, 0, -1, 0, 1), GuardAbacus.UNKNOWN);
        CHECK.fault(x, "the first is nothing", x.copy(3, -1, 0, 0, 1), 1);
        CHECK.fault(x, "the other is nothing", x.copy(0, -1, 3, 0, 1), 1);
        CHECK.fault(x, "both are nothing", x.copy(3, 0, 3, 0, 1), 1);
        CHECK.fault(x, "CAST is ahead of INDEX", x.copy(0, -1, 2, -1, -1), 2);
        CHECK.fault(x, "CAST with none", x.copy(2, 0, 0, 0, 0), 2);
        int[][] index = {{-1, 0, 1}, {0, -1, 1}, {0, 0, -1}, {0, 0, 5}, {2, 0, 4}, {0, 1, 4}, {6, 0, 0}, {0, 5, 0},
            {1, 0, Integer.MAX_VALUE}, {Integer.MAX_VALUE, 0, 1}, {0, Integer.MAX_VALUE, 1}, {0, 0, Integer.MIN_VALUE}};
        for (int[] t : index) {
            CHECK.fault(x, "copy from " + t[0] + " to " + t[1] + " of " + t[2], x.copy(0, t[0], 1, t[1], t[2]), 3);
        }
        reads(x, 1, 2, 20, 21, 22, 23);
        CHECK.due("refused", x.copy(0, 0, 9, 0, 1), GuardAbacus.UNKNOWN);
        CHECK.due("a refusal takes the fault away", x.fault(), 0);
    }

    private static void tell() {
        GuardAbacus x = Check.of("a;w93;l20;o24");
        CHECK.due("a plain one tells", x.tell(0), 9);
        CHECK.due("trace 1", x.trace(), 1);
        GuardAbacus y = Check.of("a;w93;l20;o24");
        CHECK.due("a long one tells", y.tell(1), 102);
        CHECK.due("trace 2 1", y.trace(), 2 * 31 + 1);
        GuardAbacus z = Check.of("a;w93;l20;o34");
        CHECK.due("a windowed one tells", z.tell(2), 106);
        CHECK.due("trace 3 2 1 1", z.trace(), ((3 * 31 + 2) * 31 + 1) * 31 + 1);
        CHECK.due("wire 3", z.tell(3), GuardAbacus.UNKNOWN);
        CHECK.due("wire -1", z.tell(-1), GuardAbacus.UNKNOWN);
        CHECK.due("no trace of refusals", z.trace(), ((3 * 31 + 2) * 31 + 1) * 31 + 1);
    }

    private static void feel() {
        GuardAbacus x = Check.of("a;w93;l20;o24");
        CHECK.due("a plain one is felt", x.feel(0), 3);
        CHECK.due("trace 4", x.trace(), 4);
        x.slide(1, 3);
        CHECK.due("a long one is felt", x.feel(1), 3);
        CHECK.due("trace 4 4", x.trace(), 4 * 31 + 4);
        CHECK.due("a windowed one is felt", x.feel(2), 90);
        CHECK.due("trace 4 4 5", x.trace(), (4 * 31 + 4) * 31 + 5);
        CHECK.due("wire 3", x.feel(3), GuardAbacus.UNKNOWN);
        CHECK.due("wire -1", x.feel(-1), GuardAbacus.UNKNOWN);
        CHECK.due("no trace of refusals", x.trace(), (4 * 31 + 4) * 31 + 5);
    }

    private static void as() {
        GuardAbacus x = Check.of("a;w93;l20;o24");
        for (int w = 0; w < 3; w++) {
            for (int kind = 0; kind < 3; kind++) {
                CHECK.due("as(" + w + ", " + kind + ")", x.as(w, kind), kind <= w ? 1 : -12);
                CHECK.due("fault", x.fault(), kind <= w ? 0 : 2);
            }
        }
        x.as(0, 2);
        CHECK.due("as(0, 3)", x.as(0, 3), GuardAbacus.OUTSIDE);
        CHECK.due("fault", x.fault(), 0);
        CHECK.due("as(0, -1)", x.as(0, -1), GuardAbacus.OUTSIDE);
        x.as(0, 2);
        CHECK.due("as(3, 3)", x.as(3, 3), GuardAbacus.UNKNOWN);
        CHECK.due("fault", x.fault(), 0);
        CHECK.due("as(-1, 0)", x.as(-1, 0), GuardAbacus.UNKNOWN);
        CHECK.due("no trace", x.trace(), 0);
    }

    private static void traceWraps() {
        GuardAbacus x = Check.of("a;w93;l20;o24");
        int due = 0;
        for (int t = 0; t < 20; t++) {
            x.feel(t % 3);
            due = 31 * due + (t % 3 == 2 ? 5 : 4);
            CHECK.due("trace after " + t, x.trace(), due);
        }
    }

    private static void faultOfTheLatest() {
        GuardAbacus x = Check.of("a;w93;l20;o24");
        CHECK.fault(x, "NULL", x.put(3, 0, 0), 1);
        /* None of these names a fault, so none takes it away. */
        x.ofWire(9, 9);
        x.number(0);
        x.figure(0, 0);
        x.slide(0, 1);
        x.add(1);
        x.take(1);
        x.work(1, 0);
        x.turn(0);
        x.reading(0, 0, 0);
        x.back(1);
        x.mens(0);
        x.kinds(0);
        x.odds(0, 0);
        x.lose(3);
        x.tell(0);
        x.feel(0);
        x.trace();
        x.many(0);
        CHECK.due("still NULL", x.fault(), 1);
        CHECK.due("still NULL", x.fault(), 1);
        x.as(0, 0);
        CHECK.due("as names one", x.fault(), 0);
    }
}
