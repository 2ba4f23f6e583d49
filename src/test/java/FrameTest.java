/** Promises 1 to 5, and 30: a new object, the frame by a text, its wires, numbers and figures. */
public final class FrameTest {
    private static final Check CHECK = new Check("FrameTest");
    private static final String FIVE = "a;w93;l20;o24;w10;l81";

    public static void main(String[] args) {
        newObject();
        textsTaken();
        textsFaulted();
        frameRefused();
        frameMakesAllAnew();
        ofWire();
        number();
        figure();
        many();
        CHECK.end();
    }

    private static void newObject() {
        GuardAbacus x = new GuardAbacus();
        CHECK.due("no wires", x.many(0), 0);
        CHECK.due("no men", x.many(1), 0);
        CHECK.due("no readings", x.many(2), 0);
        CHECK.due("no number", x.number(0), GuardAbacus.STATE);
        CHECK.due("no trace", x.trace(), 0);
        CHECK.due("no fault", x.fault(), 0);
        for (int k = 0; k < 4; k++) {
            CHECK.due("nothing on sheet", x.lose(k), 0);
        }
    }

    private static void textsTaken() {
        taken("a;w10;w10", 2);
        taken("a;w11;l12;o12", 3);
        taken(FIVE, 5);
        taken("a;o99;o99;o99;o99;o99;o99", 6);
        taken("a;l89;l99", 2);
        taken("a;w99;o59", 2);
    }

    private static void taken(String text, int wires) {
        for (int lane = 0; lane < 3; lane++) {
            GuardAbacus x = new GuardAbacus();
            Check.write(x, 3, lane, "zz" + text + "z");
            CHECK.due("frame of " + text + " in lane " + lane, x.frame(3, lane, 2, text.length()), wires);
            CHECK.due("wires of " + text, x.many(0), wires);
            CHECK.due("fault", x.fault(), 0);
        }
    }

    private static void textsFaulted() {
        faulted("", 0);
        faulted("b", 0);
        faulted("A;w10;w10", 0);
        faulted("a", 1);
        faulted("aa", 1);
        faulted("a;", 2);
        faulted("a;x10;w10", 2);
        faulted("a;W10;w10", 2);
        faulted("a;w", 3);
        faulted("a;w00;w10", 3);
        faulted("a;w:0;w10", 3);
        faulted("a;w1", 4);
        faulted("a;w1;", 4);
        faulted("a;w12;w10", 4);
        faulted("a;l13;w10", 4);
        faulted("a;l24;w10", 4);
        faulted("a;o13;w10", 4);
        faulted("a;o25;w10", 4);
        faulted("a;w9:;w10", 4);
        faulted("a;w9/;w10", 4);
        faulted("a;w10", 5);
        faulted("a;w10w10", 5);
        faulted("a;w10;", 6);
        faulted("a;w10;w10;", 10);
        faulted("a;w10;w10 ", 9);
        faulted("a;w10;w10;w10;w10;w10;w10;", 25);
        faulted("a;w10;w10;w10;w10;w10;w10;w10", 25);
        faulted("a;w10;w10;w10;w10;w10;w10a", 25);
        faulted("a;w93;l20;o25;w10;l81", 12);
    }

    private static void faulted(String text, int place) {
        GuardAbacus x = Check.of("a;w52;l31");
        x.reading(0, 0, 2);
        Check.write(x, 1, 1, "?" + text + "?");
        CHECK.due("frame of '" + text + "'", x.frame(1, 1, 1, text.length()), -100 - place);
        CHECK.due("a text's fault is none of the machine's", x.fault(), 0);
        CHECK.due("wires as they were", x.many(0), 2);
        CHECK.due("readings as they were", x.many(2), 1);
        CHECK.due("number as it was", x.number(0), 8);
        CHECK.due("pushed as it was", x.ofWire(0, 3), 2);
    }

    private static void frameRefused() {
        GuardAbacus x = new GuardAbacus();
        Check.write(x, 0, 1, "a;w10;w10");
        CHECK.due("UNKNOWN is ahead of OUTSIDE", x.frame(4, 3, 0, 9), GuardAbacus.UNKNOWN);
        CHECK.due("sheet -1", x.frame(-1, 1, 0, 9), GuardAbacus.UNKNOWN);
        CHECK.due("lane 3", x.frame(0, 3, 0, 9), GuardAbacus.OUTSIDE);
        CHECK.due("lane -1, nothing there", x.frame(1, -1, 0, -1), GuardAbacus.OUTSIDE);
        CHECK.fault(x, "CAST is ahead of SIZE", x.frame(0, 0, 0, -1), 2);
        CHECK.fault(x, "nothing is no CAST", x.frame(1, 0, 0, 9), 1);
        CHECK.fault(x, "NULL is ahead of SIZE", x.frame(1, 0, 0, -1), 1);
        CHECK.fault(x, "SIZE is ahead of INDEX", x.frame(0, 1, -1, -1), 4);
        CHECK.fault(x, "SIZE", x.frame(0, 1, 0, Integer.MIN_VALUE), 4);
        CHECK.fault(x, "one cell too many", x.frame(0, 1, 0, 10), 3);
        CHECK.fault(x, "one cell too far", x.frame(0, 1, 1, 9), 3);
        CHECK.fault(x, "i below 0", x.frame(0, 1, -1, 9), 3);
        CHECK.fault(x, "no cell, i beyond", x.frame(0, 1, 10, 0), 3);
        CHECK.fault(x, "no cell, i below 0", x.frame(0, 1, -1, 0), 3);
        CHECK.fault(x, "sums that wrap", x.frame(0, 1, Integer.MAX_VALUE, Integer.MAX_VALUE), 3);
        CHECK.fault(x, "sums that wrap", x.frame(0, 1, 5, Integer.MAX_VALUE), 3);
        CHECK.due("no cell at the end", x.frame(0, 1, 9, 0), -100);
        CHECK.due("fault", x.fault(), 0);
        CHECK.fault(x, "again INDEX", x.frame(0, 1, 0, 10), 3);
        CHECK.due("refused", x.frame(9, 1, 0, 9), GuardAbacus.UNKNOWN);
        CHECK.due("a refusal takes the fault away", x.fault(), 0);
        CHECK.due("still no frame", x.many(0), 0);
        CHECK.due("taken", x.frame(0, 1, 0, 9), 2);
    }

    private static void frameMakesAllAnew() {
        GuardAbacus x = Check.of(FIVE);
        x.reading(1, 1, 1);
        x.reading(2, 1, 1);
        x.tell(0);
        x.add(17);
        Check.write(x, 1, 0, "a;w21;l31");
        CHECK.due("a second frame", x.frame(1, 0, 0, 9), 2);
        CHECK.due("wires", x.many(0), 2);
        CHECK.due("men", x.many(1), 5);
        CHECK.due("no readings", x.many(2), 0);
        CHECK.due("number", x.number(0), 4);
        CHECK.due("wire 2 is gone", x.ofWire(2, 0), GuardAbacus.UNKNOWN);
        CHECK.due("the trace goes on", x.trace(), 1);
        CHECK.due("sheets stay", x.cell(0, 0, 0), 97);
    }

    private static void ofWire() {
        GuardAbacus x = Check.of(FIVE);
        int[][] due = {{0, 9, 9, 3, 1}, {1, 2, 3, 0, 10}, {2, 2, 4, 4, 40}, {0, 1, 1, 0, 200}, {1, 8, 9, 1, 400}};
        for (int w = 0; w < 5; w++) {
            for (int what = 0; what < 5; what++) {
                CHECK.due("ofWire(" + w + ", " + what + ")", x.ofWire(w, what), due[w][what]);
            }
        }
        CHECK.due("ofWire(5, 0)", x.ofWire(5, 0), GuardAbacus.UNKNOWN);
        CHECK.due("ofWire(-1, 9)", x.ofWire(-1, 9), GuardAbacus.UNKNOWN);
        CHECK.due("ofWire(0, 5)", x.ofWire(0, 5), GuardAbacus.OUTSIDE);
        CHECK.due("ofWire(0, -1)", x.ofWire(0, -1), GuardAbacus.OUTSIDE);
    }

    private static void number() {
        GuardAbacus x = Check.of(FIVE);
        CHECK.due("NUMBER", x.number(0), 3 + 160 + 400);
        CHECK.due("MOST", x.number(1), 3999);
        CHECK.due("PUSHED", x.number(2), 8);
        CHECK.due("number(3)", x.number(3), GuardAbacus.OUTSIDE);
        CHECK.due("number(-1)", x.number(-1), GuardAbacus.OUTSIDE);
        GuardAbacus none = new GuardAbacus();
        CHECK.due("OUTSIDE is ahead of STATE", none.number(3), GuardAbacus.OUTSIDE);
        CHECK.due("STATE", none.number(2), GuardAbacus.STATE);
        GuardAbacus most = Check.of("a;o90;o90;o90;o90;o90;o90");
        CHECK.due("the greatest MOST", most.number(1), 47045880);
        for (int w = 0; w < 6; w++) {
            most.slide(w, 18);
        }
        CHECK.due("all pushed", most.number(0), 47045880);
        CHECK.due("all pushed", most.number(2), 108);
    }

    private static void figure() {
        GuardAbacus x = Check.of(FIVE);
        int[] of3999 = {9, 3, 4, 1, 9};
        int[] of639 = {9, 3, 0, 1, 1};
        for (int w = 0; w < 5; w++) {
            CHECK.due("figure(" + w + ", 0)", x.figure(w, 0), 0);
            CHECK.due("figure(" + w + ", 3999)", x.figure(w, 3999), of3999[w]);
            CHECK.due("figure(" + w + ", 639)", x.figure(w, 639), of639[w]);
        }
        CHECK.due("beyond MOST", x.figure(0, 4000), GuardAbacus.OUTSIDE);
        CHECK.due("below 0", x.figure(0, -1), GuardAbacus.OUTSIDE);
        CHECK.due("UNKNOWN is ahead", x.figure(5, -1), GuardAbacus.UNKNOWN);
        CHECK.due("wire -1", x.figure(-1, 0), GuardAbacus.UNKNOWN);
        CHECK.due("nothing is changed", x.number(0), 563);
    }

    private static void many() {
        GuardAbacus x = Check.of(FIVE);
        x.reading(0, 0, 0);
        CHECK.due("wires", x.many(0), 5);
        CHECK.due("men", x.many(1), 22);
        CHECK.due("readings", x.many(2), 1);
        CHECK.due("many(3)", x.many(3), GuardAbacus.OUTSIDE);
        CHECK.due("many(-1)", x.many(-1), GuardAbacus.OUTSIDE);
    }
}
