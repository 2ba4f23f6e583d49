import java.util.Arrays;
import java.util.Random;

/**
 * What a word of the document means, sentence by sentence, by doing just what the sentence says: counting up, pushing one
 * man after another, calling one call in place of another, trying every row. No model: small frames, but all of each.
 */
public final class DefinitionsTest {
    private static final Check CHECK = new Check("DefinitionsTest");
    private static final int UNKNOWN = GuardAbacus.UNKNOWN, OUTSIDE = GuardAbacus.OUTSIDE, STATE = GuardAbacus.STATE;
    private static final int NONE = GuardAbacus.NONE;
    /* Rooms 2, 2, 4: all 45 numbers can be tried with all 45. */
    private static final String SMALL = "a;w20;l10;o20";
    private static final int[] SMALL_ROOM = {2, 2, 4};
    private static final int[][] SMALL_ROWS = countUp(SMALL_ROOM);

    public static void main(String[] args) {
        refusals();
        faults();
        codes();
        room();
        worth();
        figures();
        sumsAndTakings();
        slid();
        carried();
        noSuchSheet();
        days();
        orders();
        added();
        turns();
        follows();
        odds();
        rows();
        telling();
        kinds();
        CHECK.end();
    }

    private static int roomOf(int kind, int men) {
        return new int[] {men, men + 1, 2 * men}[kind];
    }

    private static String wire(int kind, int men) {
        return ";" + "wlo".charAt(kind) + men + "0";
    }

    /** How men stand at each number from 0 on: one more on the lowest wire; where it is full, none, and one more above. */
    private static int[][] countUp(int... room) {
        int many = 1;
        for (int r : room) {
            many *= r + 1;
        }
        int[][] rows = new int[many][];
        rows[0] = new int[room.length];
        for (int v = 1; v < many; v++) {
            rows[v] = rows[v - 1].clone();
            int w = 0;
            while (rows[v][w] == room[w]) {
                rows[v][w++] = 0;
            }
            rows[v][w]++;
        }
        return rows;
    }

    /** A new object by the text, with men pushed by slides. */
    private static GuardAbacus standing(String text, int... pushed) {
        GuardAbacus x = Check.of(text);
        for (int w = 0; w < pushed.length; w++) {
            x.slide(w, pushed[w]);
        }
        return x;
    }

    private static void stands(String when, GuardAbacus x, int... pushed) {
        for (int w = 0; w < pushed.length; w++) {
            CHECK.due(when + ": pushed on wire " + w, x.ofWire(w, 3), pushed[w]);
        }
    }

    private static void refusals() {
        CHECK.says("UNKNOWN (there is no such WIRE, SHEET, place of a row), OUTSIDE (another number is not as told),"
            + " STATE (as told), FULL; they change nothing");
        GuardAbacus x = Check.of(SMALL);
        CHECK.due("no such WIRE", x.slide(3, 1), -1);
        CHECK.due("no such SHEET", x.lose(4), -1);
        CHECK.due("another number", x.slide(0, 3), -2);
        CHECK.due("as told", x.add(45), -3);
        for (int r = 0; r < 8; r++) {
            x.reading(0, 0, 0);
        }
        CHECK.due("full", x.reading(0, 0, 0), -4);
        stands("nothing is changed", x, 0, 0, 0);
        CHECK.due("eight readings", x.many(2), 8);
    }

    private static void faults() {
        CHECK.says("FAULTS are the machine's: 1 NULL (there is nothing), 2 CAST (it is of another lane, kind), 3 INDEX");
        GuardAbacus x = Check.of(SMALL);
        Check.row(x, 1, 5, 6);
        CHECK.fault(x, "there is nothing", x.put(3, 0, 0), 1);
        CHECK.fault(x, "it is of another lane", x.fewest(1, 1, 0, 1, 5), 2);
        CHECK.fault(x, "it is of another kind", x.as(0, 1), 2);
        CHECK.fault(x, "no such cell", x.put(1, 2, 0), 3);
        CHECK.fault(x, "a length below 0", x.sheet(1, 2, -1), 4);
        CHECK.says("it answers -10 less it (LOST, where a long is answered, as for refusals) and changes nothing;"
            + " fault() tells it. NONE is -9.");
        CHECK.due("the row is as it was", x.cell(1, 1, 2), 6);
        CHECK.due("a long is LOST", x.cell(1, 2, 2), Long.MIN_VALUE);
        CHECK.due("fault() tells it", x.fault(), 3);
        CHECK.due("there is none", x.turn(0), -9);
    }

    private static void codes() {
        CHECK.says("(Codes: a 97, w 119, l 108, o 111, ; 59, digits 48 .. 57.)");
        int[] codes = {97, 59, 119, 57, 57, 59, 108, 49, 48, 59, 111, 50, 52};
        frameOf(codes, 0, 0, 0);
        CHECK.says("A FRAME by a TEXT of n cells of a SHEET from i on, taken as a row of a LANE: how many WIRES;"
            + " -100 less the FIRST FAULT. UNKNOWN; OUTSIDE: lane; FAULTS");
        for (int sheet = -1; sheet <= 4; sheet++) {
            for (int lane = -1; lane <= 3; lane++) {
                for (int i = 0; i <= 60 - codes.length; i += 47) {
                    frameOf(codes, sheet, lane, i);
                }
            }
        }
    }

    private static void frameOf(int[] codes, int sheet, int lane, int i) {
        GuardAbacus x = new GuardAbacus();
        x.sheet(sheet, lane, 60);
        for (int c = 0; c < codes.length; c++) {
            x.put(sheet, i + c, codes[c]);
        }
        boolean isSheet = sheet >= 0 && sheet < 4;
        boolean isLane = lane >= 0 && lane < 3;
        String call = "frame(" + sheet + ", " + lane + ", " + i + ", n)";
        CHECK.due(call, x.frame(sheet, lane, i, codes.length), !isSheet ? UNKNOWN : !isLane ? OUTSIDE : 3);
        int[][] due = isSheet && isLane ? new int[][] {{0, 9, 9, 9, 1}, {1, 1, 2, 0, 10}, {2, 2, 4, 4, 30}} : new int[0][];
        for (int w = 0; w < due.length; w++) {
            for (int what = 0; what < 5; what++) {
                CHECK.due(call + ", then ofWire(" + w + ", " + what + ")", x.ofWire(w, what), due[w][what]);
            }
        }
        CHECK.due(call + ", then wires", x.many(0), due.length);
        CHECK.due(call + " cut short", x.frame(sheet, lane, i, 12), !isSheet ? UNKNOWN : !isLane ? OUTSIDE : -112);
    }

    private static void room() {
        CHECK.says("ROOM: how many can be PUSHED to the wall: of a PLAIN one MEN; of a LONG one 1 more;"
            + " of a WINDOWED one twice what a PLAIN one's is.");
        for (int kind = 0; kind < 3; kind++) {
            for (int men = 1; men <= 9; men++) {
                GuardAbacus x = Check.of("a;w10" + wire(kind, men));
                int pushed = 0;
                while (pushed < 100 && x.slide(1, pushed + 1) >= 0) {
                    pushed++;
                }
                CHECK.due("pushed one by one, kind " + kind + " of " + men, pushed, roomOf(kind, men));
                CHECK.due("ROOM, kind " + kind + " of " + men, x.ofWire(1, 2), pushed);
            }
        }
    }

    private static void worth() {
        CHECK.says("WORTH of one who is PUSHED: on WIRE 0 1, on each other one WORTH on the WIRE below it times"
            + " 1 more than that one's ROOM. NUMBER: WORTH of all who are PUSHED together.");
        for (String text : new String[] {SMALL, "a;o90;l30;w70;o50;l90;w90", "a;w10;w10;o10;o10;l10"}) {
            GuardAbacus x = Check.of(text);
            int worth = 1;
            int sum = 0;
            for (int w = 0; w < x.many(0); w++) {
                CHECK.due(text + ": WORTH on wire " + w, x.ofWire(w, 4), worth);
                for (int pushed = 1; pushed <= x.ofWire(w, 2); pushed++) {
                    x.slide(w, pushed);
                    sum += worth;
                    CHECK.due(text + ": NUMBER with " + pushed + " on wire " + w, x.number(0), sum);
                }
                worth *= x.ofWire(w, 2) + 1;
            }
            CHECK.due(text + ": MOST", x.number(1), sum);
        }
    }

    private static void figures() {
        CHECK.says("FIGURE of v (0 .. MOST) on a WIRE: how many are PUSHED there, if the NUMBER is v (there is but one way).");
        for (int lower = 0; lower < 27; lower++) {
            for (int upper = 0; upper < 27; upper++) {
                figuresOf("a" + wire(lower % 3, 1 + lower / 3) + wire(upper % 3, 1 + upper / 3),
                    countUp(roomOf(lower % 3, 1 + lower / 3), roomOf(upper % 3, 1 + upper / 3)));
            }
        }
        CHECK.says("Quotients are cut.");
        for (int v = 0; v < SMALL_ROWS.length; v++) {
            CHECK.due("the upper figure of " + v, Check.of(SMALL).figure(2, v), v / 9);
        }
    }

    private static void figuresOf(String text, int[][] rows) {
        GuardAbacus x = null;
        for (int v = 0; v < rows.length; v++) {
            /* A new one now and then: an object is good for 512 calls. */
            x = v % 80 == 0 ? Check.of(text) : x;
            x.slide(0, rows[v][0]);
            x.slide(1, rows[v][1]);
            CHECK.due(text + " counted up to " + v, x.number(0), v);
            CHECK.due(text + ": figure(0, " + v + ")", x.figure(0, v), rows[v][0]);
            CHECK.due(text + ": figure(1, " + v + ")", x.figure(1, v), rows[v][1]);
        }
        CHECK.due(text + ": counted up to MOST", x.number(1), rows.length - 1);
    }

    private static void sumsAndTakings() {
        CHECK.says("A SUM of v: the NUMBER becomes v more (MOST at most); a TAKING of v: v less (0 at least).");
        int most = SMALL_ROWS.length - 1;
        for (int from = 0; from <= most; from++) {
            for (int v = 0; v <= most + 1; v++) {
                GuardAbacus x = standing(SMALL, SMALL_ROWS[from]);
                boolean can = from + v <= most;
                CHECK.holds("a SUM of " + v + " to " + from, can ? x.add(v) >= 0 : x.add(v) == STATE);
                stands("a SUM of " + v + " to " + from, x, SMALL_ROWS[can ? from + v : from]);
                x = standing(SMALL, SMALL_ROWS[from]);
                can = from - v >= 0;
                CHECK.holds("a TAKING of " + v + " from " + from, can ? x.take(v) >= 0 : x.take(v) == STATE);
                stands("a TAKING of " + v + " from " + from, x, SMALL_ROWS[can ? from - v : from]);
            }
        }
    }

    private static void slid() {
        CHECK.says("SLID: how far all FIGURES together are from what they were.");
        for (int from = 0; from < SMALL_ROWS.length; from++) {
            for (int to = from; to < SMALL_ROWS.length; to++) {
                int far = 0;
                for (int w = 0; w < 3; w++) {
                    far += Math.abs(SMALL_ROWS[from][w] - SMALL_ROWS[to][w]);
                }
                GuardAbacus x = standing(SMALL, SMALL_ROWS[from]);
                CHECK.due("would be from " + from + " to " + to, x.work(to - from, 0), far);
                CHECK.due("from " + from + " to " + to, x.add(to - from), far);
                CHECK.due("and back", x.take(to - from), far);
            }
        }
    }

    /** One man more on a wire; where it is full, all go back, and one more goes on the next: that wire's bit is set. */
    private static int push(int[] at, int w) {
        if (at[w] < SMALL_ROOM[w]) {
            at[w]++;
            return 0;
        }
        at[w] = 0;
        return 1 << w | push(at, w + 1);
    }

    private static void carried() {
        CHECK.says("CARRIED: from how many WIRES something goes over to the next one, as FIGURES of both are put together"
            + " (what went over to it, too); by a TAKING: as many as by the SUM that undoes it.");
        for (int from = 0; from < SMALL_ROWS.length; from++) {
            for (int v = 0; from + v < SMALL_ROWS.length; v++) {
                int[] at = SMALL_ROWS[from].clone();
                int over = 0;
                for (int w = 0; w < 3; w++) {
                    for (int man = 0; man < SMALL_ROWS[v][w]; man++) {
                        over |= push(at, w);
                    }
                }
                String sum = from + " and " + v;
                GuardAbacus x = standing(SMALL, SMALL_ROWS[from]);
                CHECK.due(sum, x.work(v, 1), Integer.bitCount(over));
                Check.row(x, 1, v, 0, v, 1);
                CHECK.due(sum + " in a day", x.day(1, 2, 0, 1, 3), Integer.bitCount(over));
                CHECK.due(sum + ", and taken again", x.day(1, 2, 0, 2, 3), 2 * Integer.bitCount(over));
                x.add(v);
                stands(sum + ", pushed one by one", x, at);
            }
        }
    }

    private static void noSuchSheet() {
        CHECK.says("UNKNOWN: SHEET; OUTSIDE: lane, n");
        GuardAbacus x = Check.of(SMALL);
        for (String call : new String[] {"day", "order", "fewest", "added"}) {
            for (int k : new int[] {-1, 4, Integer.MIN_VALUE, Integer.MAX_VALUE}) {
                CHECK.due(call + " of sheet " + k, Standing.call(x, call, k, 0, 0, 0, 0), UNKNOWN);
                CHECK.due(call + " of sheet " + k + ", lane 3", Standing.call(x, call, k, 3, 0, 0, 0), UNKNOWN);
                CHECK.due(call + " of sheet " + k + ", n -1", Standing.call(x, call, k, 0, 0, -1, 0), UNKNOWN);
            }
            CHECK.due(call + " in lane 3", Standing.call(x, call, 0, 3, 0, 0, 0), OUTSIDE);
            CHECK.due(call + " of -1", Standing.call(x, call, 0, 0, 0, -1, 0), OUTSIDE);
        }
    }

    private static void days() {
        CHECK.says("A DAY told: a row of pairs, one behind another, from how all is now (nothing is changed): v (0 .. 99999) and 0:"
            + " a SUM; and 1: a TAKING; a WIRE and 10 .. 28: PUSHED of it becomes that less 10 (ROOM at most).");
        Random dice = new Random(10);
        for (int t = 0; t < 3000; t++) {
            dayByCalls(dice);
        }
        CHECK.says("NUMBER then (what 0), its FIRST WRONG (1; NONE), how many are SLID in it");
        GuardAbacus x = standing(SMALL, 2, 1, 1);
        Check.row(x, 1, 1, 0, 1, 0);
        CHECK.due("NUMBER then", x.day(1, 2, 0, 2, 0), 16);
        CHECK.due("no FIRST WRONG", x.day(1, 2, 0, 2, 1), NONE);
        CHECK.due("2 back and 1 on, 1 on", x.day(1, 2, 0, 2, 2), 4);
    }

    /** Acts of a day are as the calls of a twin: add, take and slide, up to the first that is refused. */
    private static void dayByCalls(Random dice) {
        int[] now = SMALL_ROWS[dice.nextInt(SMALL_ROWS.length)];
        GuardAbacus x = standing(SMALL, now);
        GuardAbacus twin = standing(SMALL, now);
        int[] cells = new int[2 * dice.nextInt(8)];
        int wrong = NONE;
        int slid = 0;
        int carried = 0;
        int greatest = twin.number(0);
        for (int c = 0; c < cells.length; c += 2) {
            int act = dice.nextInt(3);
            cells[c] = act == 2 ? dice.nextInt(3) : dice.nextInt(24);
            cells[c + 1] = act == 2 ? 10 + dice.nextInt(SMALL_ROOM[cells[c]] + (dice.nextInt(4) == 0 ? 2 : 1)) : act;
            if (wrong == NONE) {
                int over = act == 0 ? twin.work(cells[c], 1) : 0;
                int far = act == 0 ? twin.add(cells[c]) : act == 1 ? twin.take(cells[c]) : pushedFar(twin, cells[c], cells[c + 1] - 10);
                over += act == 1 && far >= 0 ? twin.work(cells[c], 1) : 0;
                wrong = far < 0 ? c / 2 : NONE;
                slid += far;
                carried += over;
                greatest = Math.max(greatest, twin.number(0));
            }
        }
        Check.row(x, 1, cells);
        int[] due = {twin.number(0), wrong, slid, carried, greatest, twin.ofWire(0, 3), twin.ofWire(1, 3), twin.ofWire(2, 3), NONE};
        int[] whats = {0, 1, 2, 3, 4, 10, 11, 12, 13};
        for (int k = 0; k < whats.length; k++) {
            String call = "from " + Arrays.toString(now) + " by " + Arrays.toString(cells) + ", what " + whats[k];
            CHECK.due(call, x.day(1, 2, 0, cells.length / 2, whats[k]), wrong == NONE || whats[k] == 1 ? due[k] : -100 - wrong);
        }
        stands("nothing is changed", x, now);
    }

    private static int pushedFar(GuardAbacus x, int w, int v) {
        int was = x.slide(w, v);
        return was < 0 ? was : Math.abs(v - was);
    }

    private static void orders() {
        CHECK.says("ORDER of told numbers (0 .. 99999): they are SUMS, one behind another, each once, so that the least is SLID"
            + " together: of several rows (of their places, from 0 on) the first; NONE: all together are more than there is to MOST.");
        Random dice = new Random(11);
        for (int t = 0; t < 400; t++) {
            int[] cells = new int[dice.nextInt(5)];
            int scale = 3 + dice.nextInt(20);
            for (int c = 0; c < cells.length; c++) {
                cells[c] = dice.nextInt(scale);
            }
            orderOf(SMALL_ROWS[dice.nextInt(25)], 0, cells);
        }
        orderOf(SMALL_ROWS[7], 0, 3, 1, 8, 2, 5);
        orderOf(SMALL_ROWS[3], 0, 2, 2, 6, 1, 0, 7);
        CHECK.says("ORDER of n numbers, that are cells of a SHEET from i on: how many are SLID together (k -1)");
        orderOf(SMALL_ROWS[7], 1, 3, 1, 8, 2, 5);
        orderOf(SMALL_ROWS[7], 53, 3, 1, 8, 2, 5, 4);
    }

    /** Every row of places, the first first, each by add on an object of its own. */
    private static void orderOf(int[] now, int i, int... cells) {
        int n = cells.length;
        int[] best = null;
        int least = NONE;
        for (int number = 0; number < Math.pow(n, n); number++) {
            int[] row = placesOf(number, n);
            int slid = Arrays.stream(row).distinct().count() == n ? slidBy(now, cells, row) : NONE;
            if (slid >= 0 && (best == null || slid < least)) {
                best = row;
                least = slid;
            }
        }
        GuardAbacus x = standing(SMALL, now);
        x.sheet(1, 2, i + n);
        for (int c = 0; c < n; c++) {
            x.put(1, i + c, cells[c]);
        }
        String told = Arrays.toString(cells) + " from " + Arrays.toString(now);
        CHECK.due(told + ": slid", x.order(1, 2, i, n, -1), least);
        for (int k = 0; k < 6; k++) {
            CHECK.due(told + ": place " + k, x.order(1, 2, i, n, k), best != null && k < n ? best[k] : NONE);
        }
        stands("nothing is changed", x, now);
    }

    /** The number's n digits to the base n, the highest first: numbers one behind another give rows one behind another. */
    private static int[] placesOf(int number, int n) {
        int[] row = new int[n];
        int rest = number;
        for (int k = n - 1; k >= 0; k--) {
            row[k] = rest % n;
            rest /= n;
        }
        return row;
    }

    private static int slidBy(int[] now, int[] cells, int[] row) {
        GuardAbacus x = standing(SMALL, now);
        int slid = 0;
        for (int place : row) {
            int far = x.add(cells[place]);
            if (far < 0) {
                return NONE;
            }
            slid += far;
        }
        return slid;
    }

    private static void added() {
        CHECK.says("ADDED by told twos (a WIRE, and how many are PUSHED there then): of 0 .. 999 those by whose SUM"
            + " (no more than MOST) it stands so.");
        Random dice = new Random(13);
        for (int t = 0; t < 400; t++) {
            int[] now = SMALL_ROWS[dice.nextInt(SMALL_ROWS.length)];
            int[] twos = new int[2 * dice.nextInt(4)];
            for (int c = 0; c < twos.length; c += 2) {
                twos[c] = dice.nextInt(3);
                twos[c + 1] = dice.nextInt(SMALL_ROOM[twos[c]] + 1);
            }
            addedBy(now, twos);
        }
    }

    private static void addedBy(int[] now, int[] twos) {
        int many = 0;
        int least = NONE;
        int greatest = NONE;
        for (int v = 0; v < SMALL_ROWS.length; v++) {
            GuardAbacus twin = standing(SMALL, now);
            boolean so = twin.add(v) >= 0;
            for (int c = 0; c < twos.length; c += 2) {
                so &= twin.ofWire(twos[c], 3) == twos[c + 1];
            }
            many += so ? 1 : 0;
            least = so && least == NONE ? v : least;
            greatest = so ? v : greatest;
        }
        GuardAbacus x = standing(SMALL, now);
        Check.row(x, 1, twos);
        int[] due = {many, least, greatest};
        for (int what = 0; what < 3; what++) {
            String told = Arrays.toString(twos) + " from " + Arrays.toString(now) + ", what " + what;
            CHECK.due(told, x.added(1, 2, 0, twos.length / 2, what), due[what]);
        }
    }

    private static void turns() {
        CHECK.says("GAME: two by turns take some from the wall (1 or more), from one WIRE each time; who takes the last one wins."
            + " TURN: by which he who is to go now wins, whatever the other one does: of several that on the least WIRE,"
            + " and there is but one on it; NONE: there is none.");
        turnsOf(SMALL, SMALL_ROOM);
        turnsOf("a;o30;w50;l40", 6, 5, 5);
        turnsOf("a;o90;l90", 18, 10);
        turnsOf("a;w10;l10;w10;o10;l20;w20", 1, 2, 1, 2, 3, 2);
    }

    /** Who takes leaves a lower number, so all that he may leave is known: he wins where he can leave what loses. */
    private static void turnsOf(String text, int... room) {
        int[][] rows = countUp(room);
        boolean[] wins = new boolean[rows.length];
        for (int v = 0; v < rows.length; v++) {
            int wire = NONE;
            int left = NONE;
            int worth = 1;
            for (int w = 0; w < room.length; w++) {
                int onThis = 0;
                for (int some = 1; some <= rows[v][w]; some++) {
                    if (!wins[v - some * worth]) {
                        onThis++;
                        left = wire == NONE ? rows[v][w] - some : left;
                        wire = wire == NONE ? w : wire;
                    }
                }
                CHECK.holds("there is but one on it", onThis <= 1);
                worth *= room[w] + 1;
            }
            wins[v] = wire != NONE;
            GuardAbacus x = standing(text, rows[v]);
            CHECK.due("turn of " + Arrays.toString(rows[v]), x.turn(0), wire);
            CHECK.due("left of " + Arrays.toString(rows[v]), x.turn(1), left);
        }
    }

    private static void follows() {
        CHECK.says("by a SUM of v (0 .. 999, no more than MOST) to what it is now FIGURE on a WIRE is so much. All that follows:"
            + " in place of what it is alone, by which all READINGS are so, and nowhere more are PUSHED than there is ROOM:"
            + " MENS of a WIRE: MEN 1 .. 9; KINDS of a WIRE: 0 .. 2; as sets.");
        Random dice = new Random(17);
        for (int t = 0; t < 1500; t++) {
            int[] kind = new int[3];
            int[] men = new int[3];
            int[] pushed = new int[3];
            for (int w = 0; w < 3; w++) {
                kind[w] = dice.nextInt(3);
                men[w] = 1 + dice.nextInt(dice.nextBoolean() ? 3 : 9);
                pushed[w] = dice.nextInt(roomOf(kind[w], men[w]) + 1) / (1 + dice.nextInt(2));
            }
            followsOf(kind, men, pushed, someReadings(dice, frame(kind, men, pushed)));
        }
    }

    private static GuardAbacus frame(int[] kind, int[] men, int[] pushed) {
        return standing("a" + wire(kind[0], men[0]) + wire(kind[1], men[1]) + wire(kind[2], men[2]), pushed);
    }

    /** Mostly what is so, by add on that very frame; now and then what is not. */
    private static int[][] someReadings(Random dice, GuardAbacus x) {
        int[][] readings = new int[dice.nextInt(4)][];
        for (int r = 0; r < readings.length; r++) {
            int v = dice.nextInt(dice.nextBoolean() ? 20 : 200);
            int w = dice.nextInt(3);
            boolean can = x.add(v) >= 0;
            readings[r] = new int[] {v, w, can && dice.nextInt(8) > 0 ? x.ofWire(w, 3) : dice.nextInt(4)};
            x.take(can ? v : 0);
        }
        return readings;
    }

    /** Another frame by a text of its own for each number of men and each kind, and the sums done on it by add. */
    private static void followsOf(int[] kind, int[] men, int[] pushed, int[][] readings) {
        GuardAbacus x = frame(kind, men, pushed);
        for (int[] r : readings) {
            x.reading(r[0], r[1], r[2]);
        }
        String told = Arrays.toString(kind) + Arrays.toString(men) + Arrays.toString(pushed) + Arrays.deepToString(readings);
        for (int w = 0; w < 3; w++) {
            int mens = 0;
            int kinds = 0;
            for (int other = 1; other <= 9; other++) {
                int[] others = men.clone();
                others[w] = other;
                mens |= areSo(kind, others, pushed, readings) ? 1 << other : 0;
            }
            for (int other = 0; other < 3; other++) {
                int[] others = kind.clone();
                others[w] = other;
                kinds |= areSo(others, men, pushed, readings) ? 1 << other : 0;
            }
            CHECK.due(told + ": mens(" + w + ")", x.mens(w), mens);
            CHECK.due(told + ": kinds(" + w + ")", x.kinds(w), kinds);
        }
    }

    private static boolean areSo(int[] kind, int[] men, int[] pushed, int[][] readings) {
        GuardAbacus y = frame(kind, men, pushed);
        boolean so = true;
        for (int w = 0; w < 3; w++) {
            so &= y.ofWire(w, 3) == pushed[w];
        }
        for (int[] r : readings) {
            boolean can = y.add(r[0]) >= 0;
            so &= can && y.ofWire(r[1], 3) == r[2];
            y.take(can ? r[0] : 0);
        }
        return so;
    }

    private static void odds() {
        CHECK.says("ODDS of n: of all NUMBERS 0 .. MOST the share by which n are PUSHED together.");
        for (int lower = 0; lower < 27; lower++) {
            for (int upper = 0; upper < 27; upper++) {
                oddsOf("a" + wire(lower % 3, 1 + lower / 3) + wire(upper % 3, 1 + upper / 3),
                    countUp(roomOf(lower % 3, 1 + lower / 3), roomOf(upper % 3, 1 + upper / 3)));
            }
        }
        oddsOf(SMALL, SMALL_ROWS);
        oddsOf("a;o30;w50;l40", countUp(6, 5, 5));
        oddsOf("a;w10;l10;w10;o10;l20;w20", countUp(1, 2, 1, 2, 3, 2));
    }

    private static void oddsOf(String text, int[][] rows) {
        int[] counted = new int[109];
        for (int[] row : rows) {
            counted[Arrays.stream(row).sum()]++;
        }
        GuardAbacus x = Check.of(text);
        for (int n = 0; n <= 108; n++) {
            long upper = x.odds(n, 0);
            long lower = x.odds(n, 1);
            boolean least = lower > 0 && upper >= 0;
            for (long d = 2; d <= Math.min(lower, rows.length); d++) {
                least &= upper % d != 0 || lower % d != 0;
            }
            CHECK.holds(text + ": odds of " + n + " are " + upper + " / " + lower, least && upper * rows.length == counted[n] * lower);
        }
    }

    private static void rows() {
        CHECK.says("SHEETS 0 .. 3 have nothing (at first), or a row of 0 .. 60 numbers (0 at first) of a LANE: 0 bytes, 1 shorts,"
            + " 2 ints; what comes to a cell of it is cut to its LANE.");
        for (int lane = 0; lane < 3; lane++) {
            for (int n = 0; n <= 60; n += 20) {
                GuardAbacus x = new GuardAbacus();
                for (int k = 0; k < 4; k++) {
                    CHECK.due("nothing at first", x.lose(k), 0);
                    CHECK.due("sheet " + k + " of " + n, x.sheet(k, lane, n), 1);
                    for (int i = 0; i < n; i++) {
                        CHECK.due("0 at first", x.cell(k, i, lane), 0);
                    }
                    CHECK.due("no more than " + n, x.cell(k, n, lane), GuardAbacus.LOST);
                }
            }
        }
        byte[] bytes = new byte[1];
        short[] shorts = new short[1];
        GuardAbacus x = null;
        for (int t = 0; t < 2000; t++) {
            int v = t * 2147483 - 2147483647;
            x = t % 50 == 0 ? new GuardAbacus() : x;
            bytes[0] = (byte) v;
            shorts[0] = (short) v;
            long[] due = {bytes[0], shorts[0], v};
            for (int lane = 0; lane < 3; lane++) {
                x.sheet(lane, lane, 1);
                x.put(lane, 0, v);
                CHECK.due(v + " in lane " + lane, x.cell(lane, 0, lane), due[lane]);
            }
        }
    }

    private static void telling() {
        CHECK.says("TELLING of WIRES by bodies that leave their number in TRACE (an int that wraps, 0 at first, becomes 31 times it"
            + " and the number) as they begin: PLAIN (1): MEN. LONG (2): what PLAIN's gives, and 100. WINDOWED (3): what LONG's"
            + " gives, and what PLAIN's gives (LONG's left out). FELT by a lent body (4): PUSHED; WINDOWED ones have their own (5): 90.");
        for (int men = 1; men <= 9; men++) {
            GuardAbacus x = standing("a" + wire(0, men) + wire(1, men) + wire(2, men), 1, 0, 1);
            int trace = 0;
            int[] told = {men, men + 100, men + 100 + men};
            int[][] tellers = {{1}, {2, 1}, {3, 2, 1, 1}};
            int[] felt = {1, 0, 90};
            int[] feelers = {4, 4, 5};
            for (int t = 0; t < 12; t++) {
                int w = t * t % 5 % 3;
                CHECK.due("wire " + w + " of " + men + " tells", x.tell(w), told[w]);
                for (int body : tellers[w]) {
                    trace = 31 * trace + body;
                }
                CHECK.due("its bodies", x.trace(), trace);
                CHECK.due("wire " + w + " is felt", x.feel(w), felt[w]);
                trace = 31 * trace + feelers[w];
                CHECK.due("its body", x.trace(), trace);
            }
        }
        CHECK.says("TRACE.");
        GuardAbacus x = Check.of(SMALL);
        x.tell(1);
        CHECK.due("TRACE", x.trace(), 63);
        CHECK.due("is not changed by asking", x.trace(), 63);
    }

    private static void kinds() {
        CHECK.says("A WIRE, taken as one of a kind: 1. UNKNOWN; OUTSIDE; CAST: it is none (each is a PLAIN one, too;"
            + " a WINDOWED one is a LONG one).");
        int[][] due = {{1, -12, -12}, {1, 1, -12}, {1, 1, 1}};
        GuardAbacus x = Check.of(SMALL);
        for (int w = -1; w <= 3; w++) {
            for (int kind = -1; kind <= 3; kind++) {
                boolean isWire = w >= 0 && w < 3;
                int want = !isWire ? UNKNOWN : kind < 0 || kind > 2 ? OUTSIDE : due[w][kind];
                CHECK.due("as(" + w + ", " + kind + ")", x.as(w, kind), want);
                CHECK.due("fault()", x.fault(), want == -12 ? 2 : 0);
            }
        }
    }
}
