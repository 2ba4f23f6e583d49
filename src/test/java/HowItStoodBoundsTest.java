/** Boundary cases of promises 15 to 19, and of part 4 of the terms: a test for each sentence that names one. */
public final class HowItStoodBoundsTest {
    private static final Check CHECK = new Check("HowItStoodBoundsTest");
    private static final int UNKNOWN = GuardAbacus.UNKNOWN, OUTSIDE = GuardAbacus.OUTSIDE, FULL = GuardAbacus.FULL;
    private static final int LEAST = Integer.MIN_VALUE, GREATEST = Integer.MAX_VALUE;
    private static final int ALL_MEN = 0b1111111110, ALL_KINDS = 0b111;
    private static final String TENS = "a;w90;w90";

    public static void main(String[] args) {
        eightAtMost();
        readingBounds();
        readingBeyondFrame();
        back();
        moreThanMost();
        roomForMens();
        roomForKinds();
        aloneInPlace();
        allReadings();
        whatItIsNow();
        sets();
        unknownWires();
        shares();
        oddsBounds();
        oddsWithoutFrame();
        CHECK.end();
    }

    private static void eightAtMost() {
        CHECK.says("READINGS, 8 at most, numbered by how many there are");
        GuardAbacus x = Check.of(TENS);
        for (int r = 0; r < 8; r++) {
            CHECK.due("reading " + r, x.reading(r, 0, r), r);
            CHECK.due("many behind reading " + r, x.many(2), r + 1);
        }
        CHECK.due("a ninth", x.reading(9, 0, 0), FULL);
        CHECK.due("a tenth", x.reading(9, 0, 0), FULL);
        CHECK.due("eight still", x.many(2), 8);
        CHECK.due("a ninth that is not so is not kept", x.mens(0), 0b1110000000);
        CHECK.due("one back", x.back(1), 7);
        CHECK.due("room for one", x.reading(9, 0, 9), 7);
        CHECK.due("full again", x.reading(9, 0, 9), FULL);
        CHECK.due("the new one counts", x.mens(0), 1 << 9);
    }

    private static void readingBounds() {
        CHECK.says("A READING: its number. UNKNOWN: w; OUTSIDE: v (0 .. 999), figure (0 .. 18); FULL.");
        GuardAbacus x = Check.of(TENS);
        for (int v : new int[] {-1, 1000, LEAST, GREATEST}) {
            CHECK.due("v " + v, x.reading(v, 0, 0), OUTSIDE);
            CHECK.due("v " + v + ", wire 2", x.reading(v, 2, 0), UNKNOWN);
        }
        for (int figure : new int[] {-1, 19, LEAST, GREATEST}) {
            CHECK.due("figure " + figure, x.reading(0, 0, figure), OUTSIDE);
            CHECK.due("figure " + figure + ", wire -1", x.reading(0, -1, figure), UNKNOWN);
        }
        CHECK.due("none is kept", x.many(2), 0);
        CHECK.due("v 0, wire 0, figure 0", x.reading(0, 0, 0), 0);
        CHECK.due("v 999", x.reading(999, 0, 0), 1);
        CHECK.due("figure 18", x.reading(0, 1, 18), 2);
        CHECK.due("wire 2", x.reading(0, 2, 0), UNKNOWN);
        CHECK.due("wire -1", x.reading(0, -1, 0), UNKNOWN);
        for (int r = 3; r < 8; r++) {
            x.reading(0, 0, 0);
        }
        CHECK.due("full", x.reading(0, 0, 0), FULL);
        CHECK.due("full, v 1000", x.reading(1000, 0, 0), OUTSIDE);
        CHECK.due("full, figure 19", x.reading(0, 0, 19), OUTSIDE);
        CHECK.due("full, wire 2", x.reading(0, 2, 0), UNKNOWN);
        GuardAbacus six = Check.of("a;w10;w10;w10;w10;w10;w10");
        CHECK.due("wire 5 of six", six.reading(0, 5, 0), 0);
        CHECK.due("wire 6 of six", six.reading(0, 6, 0), UNKNOWN);
        CHECK.due("no frame", new GuardAbacus().reading(0, 0, 0), UNKNOWN);
    }

    private static void readingBeyondFrame() {
        CHECK.says("by a SUM of v (0 .. 999, no more than MOST) to what it is now FIGURE on a WIRE is so much");
        GuardAbacus x = Check.of("a;w10;w10");
        CHECK.due("more than MOST is read all the same", x.reading(999, 0, 0), 0);
        CHECK.due("but is never so", x.mens(0), 0);
        CHECK.due("but is never so", x.kinds(1), 0);
        x.back(1);
        CHECK.due("more than ROOM is read all the same", x.reading(3, 0, 18), 0);
        CHECK.due("but is never so", x.mens(0), 0);
        GuardAbacus wide = Check.of("a;o10;w10");
        CHECK.due("eighteen", wide.reading(18, 0, 18), 0);
        CHECK.due("is so by nine", wide.mens(0), 1 << 9);
    }

    private static void back() {
        CHECK.says("The last n READINGS (0 .. as many as there are) are taken back: how many are left. OUTSIDE.");
        GuardAbacus x = Check.of(TENS);
        CHECK.due("back(0) of none", x.back(0), 0);
        CHECK.due("back(1) of none", x.back(1), OUTSIDE);
        CHECK.due("back(-1) of none", x.back(-1), OUTSIDE);
        for (int r = 0; r < 8; r++) {
            x.reading(r, 0, r);
        }
        for (int n : new int[] {-1, 9, LEAST, GREATEST}) {
            CHECK.due("back(" + n + ") of eight", x.back(n), OUTSIDE);
            CHECK.due("eight still", x.many(2), 8);
        }
        CHECK.due("back(0) of eight", x.back(0), 8);
        CHECK.due("eight are so", x.mens(0), 0b1110000000);
        CHECK.due("back(5) of eight", x.back(5), 3);
        CHECK.due("the first three are left", x.mens(0), 0b1111111100);
        CHECK.due("back(4) of three", x.back(4), OUTSIDE);
        CHECK.due("back(3) of three", x.back(3), 0);
        CHECK.due("none is left", x.mens(0), ALL_MEN);
        for (int r = 0; r < 8; r++) {
            x.reading(0, 0, 0);
        }
        CHECK.due("back(8) of eight", x.back(8), 0);
        GuardAbacus none = new GuardAbacus();
        CHECK.due("no frame, back(0)", none.back(0), 0);
        CHECK.due("no frame, back(1)", none.back(1), OUTSIDE);
    }

    private static void moreThanMost() {
        CHECK.says("a SUM of v (0 .. 999, no more than MOST)");
        GuardAbacus x = Check.of("a;w90;w10");
        x.reading(19, 0, 9);
        CHECK.due("19 comes to MOST of one man above", x.mens(1), ALL_MEN);
        x.back(1);
        x.reading(20, 0, 0);
        CHECK.due("20 is more than MOST of one", x.mens(1), ALL_MEN - 0b10);
        x.back(1);
        x.slide(1, 1);
        x.reading(9, 0, 9);
        CHECK.due("10 and 9 come to it", x.mens(1), ALL_MEN);
        x.reading(10, 0, 0);
        CHECK.due("10 and 10 are more", x.mens(1), ALL_MEN - 0b10);
        GuardAbacus y = Check.of("a;w90;w10");
        y.reading(20, 0, 0);
        CHECK.due("one more of a LONG one, twice of a WINDOWED one", y.kinds(1), 0b110);
        y.back(1);
        y.reading(19, 0, 9);
        CHECK.due("19 by any kind", y.kinds(1), ALL_KINDS);
        GuardAbacus greatest = Check.of("a;w90;w90;w90");
        greatest.reading(999, 2, 9);
        CHECK.due("999 comes to MOST", greatest.mens(2), 1 << 9);
        greatest.add(1);
        CHECK.due("999 is more than there is to it", greatest.mens(2), 0);
    }

    private static int menFrom(int least) {
        return ALL_MEN >> least << least & ALL_MEN;
    }

    private static void roomForMens() {
        CHECK.says("nowhere more are PUSHED than there is ROOM: MENS of a WIRE: MEN 1 .. 9");
        for (int pushed = 0; pushed <= 18; pushed++) {
            GuardAbacus x = Check.of("a;w90;l90;o90");
            if (pushed <= 9) {
                x.slide(0, pushed);
                CHECK.due(pushed + " on a PLAIN one", x.mens(0), menFrom(pushed));
            }
            if (pushed <= 10) {
                x.slide(1, pushed);
                CHECK.due(pushed + " on a LONG one", x.mens(1), menFrom(Math.max(0, pushed - 1)));
            }
            x.slide(2, pushed);
            CHECK.due(pushed + " on a WINDOWED one", x.mens(2), menFrom((pushed + 1) / 2));
        }
    }

    private static void roomForKinds() {
        CHECK.says("KINDS of a WIRE: 0 .. 2; as sets.");
        for (int men = 1; men <= 9; men++) {
            for (int pushed = 0; pushed <= 2 * men; pushed++) {
                GuardAbacus x = Check.of("a;w10;o" + men + "0");
                x.slide(1, pushed);
                int due = (pushed <= men ? 1 : 0) | (pushed <= men + 1 ? 2 : 0) | 4;
                CHECK.due(pushed + " pushed of " + men, x.kinds(1), due);
            }
        }
        GuardAbacus one = Check.of("a;l12;w10");
        CHECK.due("2 of 1: a LONG one's room is a WINDOWED one's", one.kinds(0), 0b110);
    }

    private static void aloneInPlace() {
        CHECK.says("in place of what it is alone, by which all READINGS are so");
        GuardAbacus x = Check.of("a;w10;w10;w90");
        x.reading(10, 2, 2);
        /* 10 on the highest wire is 2 by 4 below it (1 and 1 man) and by 5 (no two rooms): by one wire alone 2 m + 2 is 4. */
        CHECK.due("wire 0 by wire 1 as it is", x.mens(0), 1 << 1);
        CHECK.due("wire 1 by wire 0 as it is", x.mens(1), 1 << 1);
        CHECK.due("kinds of wire 0: by 4 and no more", x.kinds(0), 0b001);
        CHECK.due("wire 2 needs two", x.mens(2), menFrom(2));
        CHECK.due("as it was", x.ofWire(0, 1), 1);
        CHECK.due("as it was", x.ofWire(2, 1), 9);
    }

    private static void allReadings() {
        CHECK.says("by which all READINGS are so");
        for (int deciding = 0; deciding < 8; deciding++) {
            GuardAbacus x = Check.of(TENS);
            for (int r = 0; r < 8; r++) {
                x.reading(r == deciding ? 8 : 0, 0, r == deciding ? 8 : 0);
            }
            CHECK.due("reading " + deciding + " tells", x.mens(0), 0b1100000000);
        }
        GuardAbacus x = Check.of(TENS);
        CHECK.due("none: all men", x.mens(0), ALL_MEN);
        CHECK.due("none: all kinds", x.kinds(0), ALL_KINDS);
        x.reading(5, 0, 5);
        x.reading(5, 0, 4);
        CHECK.due("two that can't both be", x.mens(0), 0);
        CHECK.due("two that can't both be", x.kinds(1), 0);
    }

    private static void whatItIsNow() {
        CHECK.says("to what it is now FIGURE on a WIRE is so much");
        GuardAbacus x = Check.of(TENS);
        x.reading(3, 0, 3);
        CHECK.due("3 is 3 by three men and more", x.mens(0), menFrom(3));
        x.add(6);
        CHECK.due("9 is 3 by five men alone: but six are pushed", x.mens(0), 0);
        x.take(3);
        CHECK.due("6 is 3 by no men", x.mens(0), 0);
        x.take(3);
        CHECK.due("3 again", x.mens(0), menFrom(3));
    }

    private static void sets() {
        CHECK.says("Sets are told as bits (bit k for number k).");
        for (int men = 1; men <= 9; men++) {
            GuardAbacus x = Check.of("a;w90;w90");
            x.reading(men, 0, men);
            x.reading(men + 1, 0, 0);
            CHECK.due("MEN " + men, x.mens(0), 1 << men);
        }
        for (int kind = 0; kind < 3; kind++) {
            GuardAbacus x = Check.of("a;w30;w90");
            int room = new int[] {3, 4, 6}[kind];
            x.reading(room, 0, room);
            x.reading(room + 1, 0, 0);
            CHECK.due("kind " + kind, x.kinds(0), 1 << kind);
        }
    }

    private static void unknownWires() {
        CHECK.says("KINDS, as a set. UNKNOWN.");
        GuardAbacus x = Check.of(TENS);
        GuardAbacus none = new GuardAbacus();
        for (int w : new int[] {-1, 2, 5, 6, LEAST, GREATEST}) {
            CHECK.due("kinds(" + w + ")", x.kinds(w), UNKNOWN);
        }
        CHECK.due("kinds(1)", x.kinds(1), ALL_KINDS);
        CHECK.due("no frame", none.kinds(0), UNKNOWN);
        CHECK.says("MENS, as a set. UNKNOWN.");
        for (int w : new int[] {-1, 2, 5, 6, LEAST, GREATEST}) {
            CHECK.due("mens(" + w + ")", x.mens(w), UNKNOWN);
        }
        CHECK.due("mens(1)", x.mens(1), ALL_MEN);
        CHECK.due("no frame", none.mens(0), UNKNOWN);
    }

    private static void share(GuardAbacus x, int n, long upper, long lower) {
        CHECK.due("odds(" + n + ", 0)", x.odds(n, 0), upper);
        CHECK.due("odds(" + n + ", 1)", x.odds(n, 1), lower);
    }

    private static void shares() {
        CHECK.says("Shares are told as upper and lower number (above 0) in least terms.");
        GuardAbacus small = Check.of("a;w10;w10");
        share(small, 0, 1, 4);
        share(small, 1, 1, 2);
        share(small, 2, 1, 4);
        share(small, 3, 0, 1);
        share(small, 108, 0, 1);
        GuardAbacus six = Check.of("a;w10;w10;w10;w10;w10;w10");
        int[] upper = {1, 3, 15, 5, 15, 3, 1, 0};
        int[] lower = {64, 32, 64, 16, 64, 32, 64, 1};
        for (int n = 0; n < 8; n++) {
            share(six, n, upper[n], lower[n]);
        }
        GuardAbacus large = Check.of("a;o90;o90;o90;o90;o90;o90");
        share(large, 107, 6, 47045881);
        share(large, 1, 6, 47045881);
        share(large, 0, 1, 47045881);
        long all = 0;
        for (int n = 0; n <= 108; n++) {
            all += large.odds(n, 0) * (47045881 / large.odds(n, 1));
        }
        CHECK.due("all shares together are all numbers", all, 47045881);
    }

    private static void oddsBounds() {
        CHECK.says("ODDS of n (0 .. 108; which 0 the upper, 1 the lower number).");
        GuardAbacus x = Check.of("a;o90;o90;o90;o90;o90;o90");
        share(x, 108, 1, 47045881);
        for (int n : new int[] {-1, 109, LEAST, GREATEST}) {
            CHECK.due("odds(" + n + ", 0)", x.odds(n, 0), GuardAbacus.LOST);
            CHECK.due("odds(" + n + ", 1)", x.odds(n, 1), GuardAbacus.LOST);
        }
        for (int which : new int[] {-1, 2, LEAST, GREATEST}) {
            CHECK.due("odds(0, " + which + ")", x.odds(0, which), GuardAbacus.LOST);
        }
    }

    private static void oddsWithoutFrame() {
        CHECK.says("LOST: OUTSIDE; STATE: there is no FRAME.");
        GuardAbacus none = new GuardAbacus();
        CHECK.due("no frame, which 0", none.odds(0, 0), GuardAbacus.LOST);
        CHECK.due("no frame, which 1", none.odds(108, 1), GuardAbacus.LOST);
        CHECK.due("no frame, n 109", none.odds(109, 0), GuardAbacus.LOST);
        none.put(0, 0, 0);
        none.odds(0, 0);
        CHECK.due("odds names no fault", none.fault(), 1);
    }
}
