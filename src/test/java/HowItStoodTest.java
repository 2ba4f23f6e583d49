/** Promises 15 to 19: readings, what men and kinds follow from them, and odds. */
public final class HowItStoodTest {
    private static final Check CHECK = new Check("HowItStoodTest");

    public static void main(String[] args) {
        readings();
        mens();
        kinds();
        mensAfterSums();
        mensByRoomAlone();
        odds();
        CHECK.end();
    }

    private static void readings() {
        GuardAbacus x = Check.of("a;w95;w20");
        CHECK.due("back(0)", x.back(0), 0);
        CHECK.due("back(1)", x.back(1), GuardAbacus.OUTSIDE);
        CHECK.due("wire 2", x.reading(-1, 2, 0), GuardAbacus.UNKNOWN);
        CHECK.due("wire -1", x.reading(0, -1, 0), GuardAbacus.UNKNOWN);
        CHECK.due("v 1000", x.reading(1000, 0, 0), GuardAbacus.OUTSIDE);
        CHECK.due("v -1", x.reading(-1, 0, 0), GuardAbacus.OUTSIDE);
        CHECK.due("figure 19", x.reading(0, 0, 19), GuardAbacus.OUTSIDE);
        CHECK.due("figure -1", x.reading(0, 0, -1), GuardAbacus.OUTSIDE);
        CHECK.due("none is kept", x.many(2), 0);
        for (int r = 0; r < 8; r++) {
            CHECK.due("reading " + r, x.reading(999, 1, 18), r);
            CHECK.due("many with reading " + r, x.many(2), r + 1);
        }
        CHECK.due("a ninth", x.reading(0, 0, 0), GuardAbacus.FULL);
        CHECK.due("UNKNOWN is ahead of FULL", x.reading(0, 2, 0), GuardAbacus.UNKNOWN);
        CHECK.due("OUTSIDE is ahead of FULL", x.reading(0, 0, 19), GuardAbacus.OUTSIDE);
        CHECK.due("many", x.many(2), 8);
        CHECK.due("back(9)", x.back(9), GuardAbacus.OUTSIDE);
        CHECK.due("back(-1)", x.back(-1), GuardAbacus.OUTSIDE);
        CHECK.due("back(3)", x.back(3), 5);
        CHECK.due("numbered by how many there are", x.reading(0, 0, 0), 5);
        CHECK.due("back(6)", x.back(6), 0);
        CHECK.due("all taken back: from 0 on again", x.reading(0, 0, 0), 0);
        CHECK.due("the second", x.reading(0, 0, 0), 1);
        Check.write(x, 0, 0, "a;w95;w20");
        x.frame(0, 0, 0, 9);
        CHECK.due("a new frame: from 0 on again", x.reading(0, 0, 0), 0);
        GuardAbacus none = new GuardAbacus();
        CHECK.due("no wires", none.reading(0, 0, 0), GuardAbacus.UNKNOWN);
    }

    private static void mens() {
        GuardAbacus x = Check.of("a;w95;w20");
        CHECK.due("5 are pushed: 5 men at least", x.mens(0), 0b1111100000);
        CHECK.due("none is pushed: any", x.mens(1), 0b1111111110);
        x.reading(7, 0, 2);
        /* 12 leaves 2 by 5 and by 10; but 4 men have no room for 5. */
        CHECK.due("12 ends in 2", x.mens(0), 1 << 9);
        CHECK.due("12 needs no more", x.mens(1), 0b1111111110);
        x.reading(20, 0, 5);
        CHECK.due("25 needs two men above", x.mens(1), 0b1111111100);
        x.reading(94, 1, 9);
        CHECK.due("99 needs nine", x.mens(1), 1 << 9);
        CHECK.due("99 is more than MOST", x.mens(0), 0);
        x.back(1);
        CHECK.due("taken back", x.mens(0), 1 << 9);
        x.reading(0, 0, 18);
        CHECK.due("it can't be", x.mens(0), 0);
        CHECK.due("it can't be", x.mens(1), 0);
        CHECK.due("wire 2", x.mens(2), GuardAbacus.UNKNOWN);
        CHECK.due("wire -1", x.mens(-1), GuardAbacus.UNKNOWN);
        CHECK.due("nothing is changed", x.ofWire(0, 1), 9);
        CHECK.due("nothing is changed", x.number(0), 5);
        GuardAbacus l = Check.of("a;l21;w20");
        l.reading(3, 0, 0);
        /* 4 leaves 0 by 4: a LONG one of 2 men. By 3 (1 man) it leaves 1. */
        CHECK.due("a long one's", l.mens(0), 1 << 2);
        GuardAbacus o = Check.of("a;o31;w20");
        o.reading(8, 0, 4);
        /* 9 leaves 4 by 5: two men; by 7, 9, 11 .. it does not. */
        CHECK.due("a windowed one's", o.mens(0), 1 << 2);
    }

    private static void kinds() {
        GuardAbacus x = Check.of("a;w95;w20");
        CHECK.due("any kind", x.kinds(0), 0b111);
        x.reading(7, 0, 2);
        CHECK.due("12 ends in 2 on a PLAIN one", x.kinds(0), 0b001);
        CHECK.due("above it any", x.kinds(1), 0b111);
        x.back(1);
        x.reading(6, 0, 0);
        CHECK.due("11 ends in 0 on a LONG one", x.kinds(0), 0b010);
        x.back(1);
        x.reading(14, 0, 0);
        CHECK.due("19 ends in 0 on a WINDOWED one", x.kinds(0), 0b100);
        x.back(1);
        x.reading(30, 1, 3);
        CHECK.due("35 needs room for 3", x.kinds(1), 0b110);
        CHECK.due("wire 2", x.kinds(2), GuardAbacus.UNKNOWN);
        CHECK.due("wire -1", x.kinds(-1), GuardAbacus.UNKNOWN);
        CHECK.due("nothing is changed", x.ofWire(1, 0), 0);
        GuardAbacus full = Check.of("a;o24;l23");
        CHECK.due("4 pushed by 2 men", full.kinds(0), 0b100);
        CHECK.due("3 pushed by 2 men", full.kinds(1), 0b110);
    }

    private static void mensAfterSums() {
        GuardAbacus x = Check.of("a;w90;w90");
        x.reading(7, 0, 2);
        CHECK.due("7 ends in 2 by 5", x.mens(0), 1 << 4);
        x.add(5);
        CHECK.due("12 now: it is what it is now", x.mens(0), 1 << 9);
        x.slide(0, 0);
        x.slide(1, 1);
        /* The man above is worth what a wire of so many men is: m + 1 and 7 leave 2 by 5. */
        CHECK.due("worth goes with men", x.mens(0), 1 << 4);
    }

    private static void mensByRoomAlone() {
        GuardAbacus x = Check.of("a;w10;o90");
        x.slide(1, 18);
        CHECK.due("eighteen need nine", x.mens(1), 1 << 9);
        CHECK.due("eighteen need a windowed one", x.kinds(1), 0b100);
        x.slide(0, 1);
        CHECK.due("others as they like", x.mens(0), 0b1111111110);
        GuardAbacus six = Check.of("a;w10;w10;w10;w10;w10;o99");
        CHECK.due("the last of six", six.mens(5), 0b1111100000);
        Check.write(six, 0, 0, "a;w10;w10");
        six.frame(0, 0, 0, 9);
        CHECK.due("the wires that were are nobody's", six.mens(0), 0b1111111110);
    }

    private static void share(GuardAbacus x, int n, long upper, long lower) {
        CHECK.due("odds(" + n + ", 0)", x.odds(n, 0), upper);
        CHECK.due("odds(" + n + ", 1)", x.odds(n, 1), lower);
    }

    private static void odds() {
        GuardAbacus x = Check.of("a;w10;w11");
        share(x, 0, 1, 4);
        share(x, 1, 1, 2);
        share(x, 2, 1, 4);
        share(x, 3, 0, 1);
        share(x, 108, 0, 1);
        GuardAbacus two = Check.of("a;w90;w90");
        share(two, 9, 1, 10);
        share(two, 10, 9, 100);
        share(two, 18, 1, 100);
        GuardAbacus kinds = Check.of("a;w10;l10;o10");
        /* 2 by 3 by 3 numbers; of 1: three; of 2: two by two wires, and a pair of each of two: 5. */
        share(kinds, 1, 1, 6);
        share(kinds, 2, 5, 18);
        GuardAbacus most = Check.of("a;o90;o90;o90;o90;o90;o90");
        share(most, 0, 1, 47045881);
        share(most, 107, 6, 47045881);
        share(most, 108, 1, 47045881);
        CHECK.due("n 109", most.odds(109, 0), GuardAbacus.LOST);
        CHECK.due("n -1", most.odds(-1, 0), GuardAbacus.LOST);
        CHECK.due("which 2", most.odds(0, 2), GuardAbacus.LOST);
        CHECK.due("which -1", most.odds(0, -1), GuardAbacus.LOST);
        CHECK.due("no frame", new GuardAbacus().odds(0, 0), GuardAbacus.LOST);
        CHECK.due("nothing is changed", most.number(0), 0);
    }
}
