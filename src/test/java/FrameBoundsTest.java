/** Boundary cases of promises 1 to 5 and 30, and of part 1 of the terms: a test for each sentence that names one. */
public final class FrameBoundsTest {
    private static final Check CHECK = new Check("FrameBoundsTest");
    private static final int UNKNOWN = GuardAbacus.UNKNOWN, OUTSIDE = GuardAbacus.OUTSIDE, STATE = GuardAbacus.STATE;
    private static final int LEAST = Integer.MIN_VALUE, GREATEST = Integer.MAX_VALUE;
    private static final String SIX = "a;w11;l12;o12;w99;l90;o59";

    public static void main(String[] args) {
        newObjectHasNoFrame();
        newObjectHasNoRows();
        twoToSixWires();
        firstCode();
        semicolons();
        letters();
        men();
        pushed();
        firstOfSeveralFaults();
        endsTooSoon();
        codesAreCells();
        takenMakesAnew();
        notTakenLeaves();
        cellsOfText();
        nothingIsNoCast();
        room();
        worth();
        most();
        figure();
        ofWire();
        number();
        many();
        CHECK.end();
    }

    private static void newObjectHasNoFrame() {
        CHECK.says("No FRAME (no WIRES), SHEETS have nothing.");
        GuardAbacus x = new GuardAbacus();
        for (int w = -1; w <= 6; w++) {
            CHECK.due("ofWire(" + w + ", 0)", x.ofWire(w, 0), UNKNOWN);
            CHECK.due("tell(" + w + ")", x.tell(w), UNKNOWN);
        }
        for (int what = 0; what < 3; what++) {
            CHECK.due("number(" + what + ")", x.number(what), STATE);
            CHECK.due("many(" + what + ")", x.many(what), 0);
        }
        CHECK.due("back(0)", x.back(0), 0);
        CHECK.due("back(1)", x.back(1), OUTSIDE);
        CHECK.due("trace()", x.trace(), 0);
    }

    private static void newObjectHasNoRows() {
        CHECK.says("SHEETS 0 .. 3 have nothing (at first)");
        for (int k = 0; k < 4; k++) {
            GuardAbacus x = new GuardAbacus();
            CHECK.fault(x, "put(" + k + ", 0, 0)", x.put(k, 0, 0), 1);
            CHECK.fault(x, "frame(" + k + ", 0, 0, 0)", x.frame(k, 0, 0, 0), 1);
            CHECK.due("cell(" + k + ", 0, 0)", x.cell(k, 0, 0), GuardAbacus.LOST);
            CHECK.due("fault()", x.fault(), 1);
            CHECK.due("lose(" + k + ")", x.lose(k), 0);
        }
        GuardAbacus x = new GuardAbacus();
        CHECK.due("sheet -1", x.lose(-1), UNKNOWN);
        CHECK.due("sheet 4", x.lose(4), UNKNOWN);
    }

    private static int frameOf(String text) {
        return frameIn(new GuardAbacus(), text);
    }

    private static int frameIn(GuardAbacus x, String text) {
        Check.write(x, 1, 1, text);
        return x.frame(1, 1, 0, text.length());
    }

    private static void twoToSixWires() {
        CHECK.says("a, then 2 to 6 WIRES, numbered from 0 on, the lowest first");
        StringBuilder text = new StringBuilder("a");
        CHECK.due("no wire", frameOf(text.toString()), -101);
        for (int wires = 1; wires <= 8; wires++) {
            text.append(";w").append(wires).append('0');
            int due = wires == 1 ? -105 : wires <= 6 ? wires : -125;
            CHECK.due(wires + " wires", frameOf(text.toString()), due);
        }
        GuardAbacus x = Check.of("a;w10;w20;w30;w40;w50;w60");
        for (int w = 0; w < 6; w++) {
            CHECK.due("men of wire " + w, x.ofWire(w, 1), w + 1);
        }
        CHECK.due("wire 6", x.ofWire(6, 1), UNKNOWN);
    }

    /** A text of two wires with another code at a place, as ints. */
    private static int withCode(String text, int place, int code) {
        GuardAbacus x = new GuardAbacus();
        Check.write(x, 2, 2, text);
        x.put(2, place, code);
        return x.frame(2, 2, 0, text.length());
    }

    private static void firstCode() {
        CHECK.says("A FRAME by a TEXT: a, then");
        for (int code = -130; code <= 400; code++) {
            CHECK.due("begins with " + code, withCode("a;w10;w10", 0, code), code == 97 ? 2 : -100);
        }
    }

    private static void semicolons() {
        CHECK.says("each: ; and a letter");
        for (int code = -130; code <= 400; code++) {
            CHECK.due(code + " ahead of the first wire", withCode("a;w10;w10", 1, code), code == 59 ? 2 : -101);
            CHECK.due(code + " ahead of the second wire", withCode("a;w10;w10", 5, code), code == 59 ? 2 : -105);
        }
    }

    private static void letters() {
        CHECK.says("Kinds: 0 PLAIN (w); 1 LONG (l), a PLAIN one; 2 WINDOWED (o), a LONG one.");
        for (int code = -130; code <= 400; code++) {
            boolean isKind = code == 119 || code == 108 || code == 111;
            CHECK.due(code + " for the first wire", withCode("a;w10;w10", 2, code), isKind ? 2 : -102);
            CHECK.due(code + " for the second wire", withCode("a;w10;w10", 6, code), isKind ? 2 : -106);
        }
        GuardAbacus x = Check.of("a;w10;l10;o10");
        for (int w = 0; w < 3; w++) {
            CHECK.due("kind of wire " + w, x.ofWire(w, 0), w);
        }
    }

    private static void men() {
        CHECK.says("a digit 1 .. 9 (MEN)");
        for (int code = -130; code <= 400; code++) {
            boolean isMen = code >= 49 && code <= 57;
            CHECK.due(code + " of the first wire", withCode("a;w10;w10", 3, code), isMen ? 2 : -103);
            CHECK.due(code + " of the second wire", withCode("a;w10;w10", 7, code), isMen ? 2 : -107);
        }
    }

    private static int roomOf(int kind, int men) {
        return new int[] {men, men + 1, 2 * men}[kind];
    }

    private static void pushed() {
        CHECK.says("a digit 0 .. 9, no more than ROOM (PUSHED)");
        for (int kind = 0; kind < 3; kind++) {
            for (int men = 1; men <= 9; men++) {
                for (int code = 46; code <= 59; code++) {
                    boolean isPushed = code >= 48 && code <= 57 && code - 48 <= roomOf(kind, men);
                    String first = "a;" + "wlo".charAt(kind) + men + "0;w10";
                    String last = "a;w10;w10;w10;w10;w10;" + "wlo".charAt(kind) + men + "0";
                    CHECK.due(code + " pushed: " + first, withCode(first, 4, code), isPushed ? 2 : -104);
                    CHECK.due(code + " pushed: " + last, withCode(last, 24, code), isPushed ? 6 : -124);
                }
            }
        }
        for (int code = -130; code <= 400; code++) {
            CHECK.due(code + " pushed of 9", withCode("a;w90;w10", 4, code), code >= 48 && code <= 57 ? 2 : -104);
        }
    }

    private static void firstOfSeveralFaults() {
        CHECK.says("FIRST FAULT: the place (from 0 on) of the first code with which no TEXT goes on (the ; of a seventh WIRE)");
        CHECK.due("all wrong", frameOf("?????????"), -100);
        for (int place = 0; place < 25; place++) {
            String text = SIX.substring(0, place) + "?".repeat(25 - place);
            CHECK.due(text, frameOf(text), -100 - place);
        }
        CHECK.due("a seventh wire", frameOf(SIX + ";w10"), -125);
        CHECK.due("the ; of a seventh wire", frameOf(SIX + ";"), -125);
        CHECK.due("some other code behind six", frameOf(SIX + "?"), -125);
        CHECK.due("a fault ahead of a seventh wire", frameOf("a;w11;l12;o12;w99;l90;o5?;w10"), -124);
        CHECK.due("wrong at the last code, not too short", frameOf("a;w10;w12"), -108);
        GuardAbacus x = new GuardAbacus();
        Check.write(x, 0, 0, "zzzz" + "a;w10;x");
        CHECK.due("counted from the first cell that is taken", x.frame(0, 0, 4, 7), -106);
    }

    private static void endsTooSoon() {
        CHECK.says("how many codes there are, if it just ends too soon");
        for (int codes = 0; codes <= 25; codes++) {
            boolean isText = codes >= 9 && codes % 4 == 1;
            GuardAbacus x = new GuardAbacus();
            Check.write(x, 0, 0, SIX);
            CHECK.due(codes + " codes", x.frame(0, 0, 0, codes), isText ? (codes - 1) / 4 : -100 - codes);
            CHECK.due(codes + " codes: fault()", x.fault(), 0);
        }
        GuardAbacus empty = new GuardAbacus();
        empty.sheet(0, 0, 0);
        CHECK.due("a row of none", empty.frame(0, 0, 0, 0), -100);
    }

    private static void codesAreCells() {
        CHECK.says("what comes to a cell of it is cut to its LANE");
        int[] due = {2, -100, -100};
        for (int lane = 0; lane < 3; lane++) {
            GuardAbacus x = new GuardAbacus();
            Check.write(x, 0, lane, "a;w10;w10");
            x.put(0, 0, 97 + 256);
            CHECK.due("353 in lane " + lane, x.frame(0, lane, 0, 9), due[lane]);
            x.put(0, 0, 97 + 65536);
            CHECK.due("65633 in lane " + lane, x.frame(0, lane, 0, 9), lane == 2 ? -100 : 2);
            x.put(0, 0, 97 - 256);
            CHECK.due("-159 in lane " + lane, x.frame(0, lane, 0, 9), due[lane]);
        }
    }

    private static void takenMakesAnew() {
        CHECK.says("A TEXT that is taken makes all anew: no READINGS.");
        GuardAbacus x = Check.of(SIX);
        for (int r = 0; r < 8; r++) {
            x.reading(0, 5, 18);
        }
        CHECK.due("eight readings", x.reading(0, 0, 0), GuardAbacus.FULL);
        CHECK.due("a smaller one", frameIn(x, "a;l32;o21"), 2);
        CHECK.due("no readings", x.many(2), 0);
        CHECK.due("none to take back", x.back(1), OUTSIDE);
        CHECK.due("any men with room for 2", x.mens(0), 0b1111111110);
        CHECK.due("any kind", x.kinds(1), 0b111);
        CHECK.due("the first again", x.reading(0, 0, 2), 0);
        CHECK.due("wire 2 is gone", x.ofWire(2, 0), UNKNOWN);
        CHECK.due("NUMBER", x.number(0), 2 + 5);
        CHECK.due("MOST", x.number(1), 5 * 5 - 1);
        CHECK.due("the same once more", x.frame(1, 1, 0, 9), 2);
        CHECK.due("makes anew, too", x.many(2), 0);
    }

    private static void notTakenLeaves() {
        CHECK.says("how many WIRES; -100 less the FIRST FAULT.");
        for (int place = 0; place <= 9; place++) {
            GuardAbacus x = Standing.make(Standing.FULL, 1);
            GuardAbacus twin = Standing.make(Standing.FULL, 1);
            String text = "a;l32;o21".substring(0, place) + (place < 9 ? "?" : ";");
            Check.write(x, 3, 0, text);
            Check.write(twin, 3, 0, text);
            x.put(3, 99, 0);
            CHECK.due(text, x.frame(3, 0, 0, text.length()), place < 9 ? -100 - place : -110);
            CHECK.due(text + " is no fault of the machine", x.fault(), 0);
            CHECK.holds(text + " leaves all as it was", Standing.told(x).equals(Standing.told(twin)));
        }
    }

    private static void cellsOfText() {
        CHECK.says("INDEX: not all cells are there; -100 less it.");
        GuardAbacus x = new GuardAbacus();
        x.sheet(0, 0, 60);
        for (int c = 0; c < 25; c++) {
            x.put(0, 35 + c, SIX.charAt(c));
        }
        CHECK.fault(x, "one code beyond the row", x.frame(0, 0, 36, 25), 3);
        CHECK.fault(x, "one code too many", x.frame(0, 0, 35, 26), 3);
        CHECK.fault(x, "INDEX is ahead of -100 less", x.frame(0, 0, 0, 61), 3);
        CHECK.due("sixty codes, none of them a", x.frame(0, 0, 0, 60), -100);
        CHECK.due("up to the last cell", x.frame(0, 0, 35, 25), 6);
        CHECK.says("INDEX (of cells from i on also where i is not 0 .. how many there are, if none of them is taken, too)");
        CHECK.due("none, from 0 on", x.frame(0, 0, 0, 0), -100);
        CHECK.due("none, from 60 on", x.frame(0, 0, 60, 0), -100);
        CHECK.fault(x, "none, from 61 on", x.frame(0, 0, 61, 0), 3);
        CHECK.fault(x, "none, from -1 on", x.frame(0, 0, -1, 0), 3);
        x.sheet(0, 0, 0);
        CHECK.due("none of none", x.frame(0, 0, 0, 0), -100);
        CHECK.fault(x, "none of none from 1 on", x.frame(0, 0, 1, 0), 3);
        CHECK.fault(x, "one of none", x.frame(0, 0, 0, 1), 3);
    }

    private static void nothingIsNoCast() {
        CHECK.says("FAULTS CAST (nothing is no CAST), NULL, SIZE: n is below 0");
        for (int lane = 0; lane < 3; lane++) {
            GuardAbacus x = new GuardAbacus();
            CHECK.fault(x, "never a row, lane " + lane, x.frame(0, lane, 0, 0), 1);
            x.sheet(0, 1, 0);
            x.lose(0);
            CHECK.fault(x, "a row of shorts that is lost, lane " + lane, x.frame(0, lane, 0, -1), 1);
            x.sheet(0, 1, 0);
            CHECK.fault(x, "shorts, lane " + lane, x.frame(0, lane, -1, -1), lane == 1 ? 4 : 2);
        }
    }

    private static void room() {
        CHECK.says("of a PLAIN one MEN; of a LONG one 1 more; of a WINDOWED one twice what a PLAIN one's is.");
        for (int kind = 0; kind < 3; kind++) {
            for (int men = 1; men <= 9; men++) {
                GuardAbacus x = Check.of("a;w10;" + "wlo".charAt(kind) + men + "0");
                int room = roomOf(kind, men);
                String wire = "kind " + kind + " of " + men;
                CHECK.due(wire, x.ofWire(1, 2), room);
                CHECK.due(wire + ", one more than room", x.slide(1, room + 1), OUTSIDE);
                CHECK.due(wire + ", as many as room", x.slide(1, room), 0);
                CHECK.due(wire + ", pushed", x.ofWire(1, 3), room);
                CHECK.due(wire + ", MOST", x.number(1), 2 * (room + 1) - 1);
            }
        }
    }

    private static void worth() {
        CHECK.says("on WIRE 0 1, on each other one WORTH on the WIRE below it times 1 more than that one's ROOM.");
        GuardAbacus small = Check.of("a;w10;w10;w10;w10;w10;w10");
        GuardAbacus large = Check.of("a;o90;o90;o90;o90;o90;o90");
        int due = 1;
        for (int w = 0; w < 6; w++) {
            CHECK.due("least worth of wire " + w, small.ofWire(w, 4), 1 << w);
            CHECK.due("greatest worth of wire " + w, large.ofWire(w, 4), due);
            due *= 19;
        }
        GuardAbacus mixed = Check.of("a;o10;l10;w10");
        CHECK.due("above a WINDOWED one", mixed.ofWire(1, 4), 3);
        CHECK.due("above a LONG one", mixed.ofWire(2, 4), 9);
    }

    private static void most() {
        CHECK.says("MOST: the greatest NUMBER there can be.");
        GuardAbacus small = Check.of("a;w10;w10");
        CHECK.due("the least MOST", small.number(1), 3);
        CHECK.due("NUMBER 0", small.number(0), 0);
        small.slide(0, 1);
        small.slide(1, 1);
        CHECK.due("NUMBER 3", small.number(0), 3);
        GuardAbacus large = Check.of("a;o90;o90;o90;o90;o90;o90");
        for (int w = 0; w < 6; w++) {
            large.slide(w, 18);
        }
        CHECK.due("the greatest MOST", large.number(1), 47045880);
        CHECK.due("all are pushed", large.number(0), 47045880);
        CHECK.due("together", large.number(2), 108);
        CHECK.due("men", large.many(1), 54);
    }

    private static void figure() {
        CHECK.says("FIGURE of v on a WIRE. UNKNOWN; OUTSIDE: v (0 .. MOST).");
        GuardAbacus small = Check.of("a;w11;w11");
        for (int v = 0; v <= 3; v++) {
            CHECK.due("figure(0, " + v + ")", small.figure(0, v), v % 2);
            CHECK.due("figure(1, " + v + ")", small.figure(1, v), v / 2);
        }
        GuardAbacus large = Check.of("a;o90;o90;o90;o90;o90;o90");
        for (int w = 0; w < 6; w++) {
            CHECK.due("of 0 on wire " + w, large.figure(w, 0), 0);
            CHECK.due("of MOST on wire " + w, large.figure(w, 47045880), 18);
            CHECK.due("of one more on wire " + w, large.figure(w, 47045881), OUTSIDE);
            CHECK.due("of what is worth one on wire " + w, large.figure(w, large.ofWire(w, 4)), 1);
            CHECK.due("of one less on wire " + w, large.figure(w, large.ofWire(w, 4) - 1), 0);
        }
        for (int w = 0; w < 2; w++) {
            CHECK.due("of 4 on wire " + w, small.figure(w, 4), OUTSIDE);
            CHECK.due("of -1 on wire " + w, small.figure(w, -1), OUTSIDE);
            CHECK.due("of the least int on wire " + w, small.figure(w, LEAST), OUTSIDE);
            CHECK.due("of the greatest int on wire " + w, small.figure(w, GREATEST), OUTSIDE);
        }
        CHECK.due("wire 2, 4", small.figure(2, 4), UNKNOWN);
        CHECK.due("wire -1, -1", small.figure(-1, -1), UNKNOWN);
    }

    private static void ofWire() {
        CHECK.says("Of a WIRE: 0 kind, 1 MEN, 2 ROOM, 3 PUSHED, 4 WORTH. UNKNOWN; OUTSIDE.");
        GuardAbacus x = Check.of("a;w10;l93;o57");
        int[] lowest = {0, 1, 1, 0, 1};
        int[] highest = {2, 5, 10, 7, 22};
        for (int what = 0; what < 5; what++) {
            CHECK.due("wire 0, " + what, x.ofWire(0, what), lowest[what]);
            CHECK.due("wire 2, " + what, x.ofWire(2, what), highest[what]);
            CHECK.due("wire 3, " + what, x.ofWire(3, what), UNKNOWN);
            CHECK.due("wire -1, " + what, x.ofWire(-1, what), UNKNOWN);
        }
        CHECK.due("what 5", x.ofWire(2, 5), OUTSIDE);
        CHECK.due("what -1", x.ofWire(2, -1), OUTSIDE);
        CHECK.due("both", x.ofWire(3, 5), UNKNOWN);
    }

    private static void number() {
        CHECK.says("NUMBER (what 0), MOST (1), how many are PUSHED together (2). OUTSIDE; STATE: there is no FRAME.");
        GuardAbacus none = new GuardAbacus();
        GuardAbacus x = Check.of("a;w10;l93;o57");
        int[] due = {6 + 7 * 22, 2 * 11 * 11 - 1, 10};
        for (int what = 0; what < 3; what++) {
            CHECK.due("what " + what, x.number(what), due[what]);
            CHECK.due("no frame, what " + what, none.number(what), STATE);
        }
        for (int what : new int[] {-1, 3, LEAST, GREATEST}) {
            CHECK.due("what " + what, x.number(what), OUTSIDE);
            CHECK.due("no frame, what " + what, none.number(what), OUTSIDE);
        }
    }

    private static void many() {
        CHECK.says("How many: 0 WIRES, 1 MEN on all of them, 2 READINGS (0 all without a FRAME). OUTSIDE.");
        GuardAbacus none = new GuardAbacus();
        none.reading(0, 0, 0);
        GuardAbacus least = Check.of("a;w10;w10");
        GuardAbacus greatest = Check.of("a;o99;o99;o99;o99;o99;o99");
        for (int r = 0; r < 9; r++) {
            greatest.reading(0, 0, 0);
        }
        int[] dueLeast = {2, 2, 0};
        int[] dueGreatest = {6, 54, 8};
        for (int what = 0; what < 3; what++) {
            CHECK.due("no frame, what " + what, none.many(what), 0);
            CHECK.due("least, what " + what, least.many(what), dueLeast[what]);
            CHECK.due("greatest, what " + what, greatest.many(what), dueGreatest[what]);
        }
        for (int what : new int[] {-1, 3, LEAST, GREATEST}) {
            CHECK.due("what " + what, least.many(what), OUTSIDE);
            CHECK.due("no frame, what " + what, none.many(what), OUTSIDE);
        }
    }
}
