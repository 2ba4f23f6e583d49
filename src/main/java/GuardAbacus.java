/**
 * A frame of wires on which a garrison is threaded, so that an order is a sum.
 * The numbered promises of the document say what each public call answers.
 */
public final class GuardAbacus {
    public static final int UNKNOWN = -1, OUTSIDE = -2, STATE = -3, FULL = -4, NONE = -9;
    public static final long LOST = Long.MIN_VALUE;

    private static final int NULL_FAULT = 1, CAST_FAULT = 2, INDEX_FAULT = 3, SIZE_FAULT = 4;
    private static final int FAULT_BASE = -10, PLACE_BASE = -100;

    private static final int PLAIN = 0, LONG = 1, WINDOWED = 2, KINDS = 3;
    private static final int LEAST_WIRES = 2, MOST_WIRES = 6, MOST_MEN = 9;

    private static final int BYTES = 0, SHORTS = 1, LANES = 3;
    private static final int SHEETS = 4, MOST_CELLS = 60;

    private static final int MOST_ACTS = 20, MOST_ORDERED = 6, MOST_COINS = 8, MOST_TWOS = 10, MOST_READINGS = 8;
    private static final int GREATEST_TOLD = 99999, GREATEST_SMALL = 999, GREATEST_FIGURE = 18, GREATEST_TOGETHER = 108;
    private static final int ACT_SUM = 0, ACT_TAKING = 1, ACT_PUSH = 10, WHAT_PUSHED = 10;

    private static final int PLAIN_BODY = 1, LONG_BODY = 2, WINDOWED_BODY = 3, LENT_BODY = 4, OWN_BODY = 5;
    private static final int LONG_MORE = 100, WINDOWED_FELT = 90;

    private final Wires wires = new Wires();
    /* Tries of other frames and days go here, so that what stands is never touched by a question. */
    private final Wires trial = new Wires();
    private final Sheet[] sheets = new Sheet[SHEETS];
    private final Text text = new Text();
    private final Day told = new Day();
    private final Order least = new Order();
    private final Readings readings = new Readings();
    private final int[] fewestTo = new int[GREATEST_SMALL + 1];
    private final long[] ways = new long[GREATEST_TOGETHER + 1];
    private int traced = 0;
    private int lastFault = 0;

    public GuardAbacus() {
        for (int k = 0; k < SHEETS; k++) {
            sheets[k] = new Sheet();
        }
    }

    // ---- 1 the frame

    public int frame(int sheet, int lane, int i, int n) {
        int trouble = rowTrouble(sheet, lane, i, n, true);
        if (trouble != 0) {
            return trouble;
        }
        int place = text.firstFault(sheets[sheet], i, n);
        if (place != NONE) {
            return PLACE_BASE - place;
        }
        wires.become(text.made);
        readings.count = 0;
        return wires.count;
    }

    public int ofWire(int w, int what) {
        if (!wires.has(w)) {
            return UNKNOWN;
        }
        switch (what) {
            case 0:
                return wires.kind[w];
            case 1:
                return wires.men[w];
            case 2:
                return wires.room[w];
            case 3:
                return wires.pushed[w];
            case 4:
                return wires.worth[w];
            default:
                return OUTSIDE;
        }
    }

    public int number(int what) {
        if (what < 0 || what > 2) {
            return OUTSIDE;
        }
        if (wires.count == 0) {
            return STATE;
        }
        if (what == 0) {
            return wires.numberNow();
        }
        return what == 1 ? wires.most : wires.pushedTogether();
    }

    public int figure(int w, int v) {
        if (!wires.has(w)) {
            return UNKNOWN;
        }
        if (v < 0 || v > wires.most) {
            return OUTSIDE;
        }
        return wires.figureOf(w, v);
    }

    // ---- 2 sums

    public int slide(int w, int v) {
        if (!wires.has(w)) {
            return UNKNOWN;
        }
        if (v < 0 || v > wires.room[w]) {
            return OUTSIDE;
        }
        int was = wires.pushed[w];
        wires.pushed[w] = v;
        return was;
    }

    public int add(int v) {
        if (v < 0) {
            return OUTSIDE;
        }
        if (!wires.canSum(v)) {
            return STATE;
        }
        return wires.moveTo(wires.numberNow() + v);
    }

    public int take(int v) {
        if (v < 0) {
            return OUTSIDE;
        }
        if (!wires.canTake(v)) {
            return STATE;
        }
        return wires.moveTo(wires.numberNow() - v);
    }

    public int work(int v, int what) {
        if (v < 0 || what < 0 || what > 1) {
            return OUTSIDE;
        }
        if (!wires.canSum(v)) {
            return STATE;
        }
        int from = wires.numberNow();
        return what == 0 ? wires.slidBetween(from, from + v) : wires.carriedBy(from, v);
    }

    public int day(int sheet, int lane, int i, int n, int what) {
        boolean asTold = n >= 0 && n <= MOST_ACTS && isOfDay(what);
        int trouble = rowTrouble(sheet, lane, i, 2 * n, asTold);
        if (trouble != 0) {
            return trouble;
        }
        if (wires.count == 0) {
            return STATE;
        }
        Sheet row = sheets[sheet];
        int refusal = actsRefusal(row, i, n);
        if (refusal != 0) {
            return refusal;
        }
        trial.become(wires);
        told.run(trial, row, i, n);
        return ofDay(what);
    }

    private static boolean isOfDay(int what) {
        return what >= 0 && what <= 4 || what >= WHAT_PUSHED && what < WHAT_PUSHED + MOST_WIRES;
    }

    private int actsRefusal(Sheet row, int i, int n) {
        for (int act = 0; act < n; act++) {
            int first = row.at(i + 2 * act);
            int second = row.at(i + 2 * act + 1);
            boolean reckons = second == ACT_SUM || second == ACT_TAKING;
            if (!reckons && (second < ACT_PUSH || second > ACT_PUSH + GREATEST_FIGURE)) {
                return OUTSIDE;
            }
            if (reckons && (first < 0 || first > GREATEST_TOLD)) {
                return OUTSIDE;
            }
            if (!reckons && !wires.has(first)) {
                return UNKNOWN;
            }
        }
        return 0;
    }

    private int ofDay(int what) {
        if (what == 1) {
            return told.firstWrong;
        }
        if (told.firstWrong != NONE) {
            return PLACE_BASE - told.firstWrong;
        }
        switch (what) {
            case 0:
                return trial.numberNow();
            case 2:
                return told.slid;
            case 3:
                return told.carried;
            case 4:
                return told.greatest;
            default:
                return trial.has(what - WHAT_PUSHED) ? trial.pushed[what - WHAT_PUSHED] : NONE;
        }
    }

    // ---- 3 which sums

    public int order(int sheet, int lane, int i, int n, int k) {
        boolean asTold = n >= 0 && n <= MOST_ORDERED && k >= -1 && k < MOST_ORDERED;
        int trouble = rowTrouble(sheet, lane, i, n, asTold);
        if (trouble != 0) {
            return trouble;
        }
        if (wires.count == 0) {
            return STATE;
        }
        Sheet row = sheets[sheet];
        if (!row.allWithin(i, n, GREATEST_TOLD)) {
            return OUTSIDE;
        }
        if (!least.find(wires, row, i, n)) {
            return NONE;
        }
        if (k < 0) {
            return least.slidInAll();
        }
        return least.placeAt(k);
    }

    public int fewest(int sheet, int lane, int i, int n, int d) {
        boolean asTold = n >= 0 && n <= MOST_COINS && d >= 0 && d <= GREATEST_SMALL;
        int trouble = rowTrouble(sheet, lane, i, n, asTold);
        if (trouble != 0) {
            return trouble;
        }
        Sheet row = sheets[sheet];
        if (!row.allWithin(i, n, GREATEST_SMALL)) {
            return OUTSIDE;
        }
        fewestTo[0] = 0;
        for (int to = 1; to <= d; to++) {
            fewestTo[to] = fewestWithLast(row, i, n, to);
        }
        return fewestTo[d];
    }

    private int fewestWithLast(Sheet row, int i, int n, int to) {
        int best = NONE;
        for (int c = 0; c < n; c++) {
            int last = row.at(i + c);
            /* A sum of 0 comes no further, so it is never one of the fewest. */
            if (last > 0 && last <= to && fewestTo[to - last] != NONE) {
                int sums = fewestTo[to - last] + 1;
                best = best == NONE ? sums : Math.min(best, sums);
            }
        }
        return best;
    }

    public int added(int sheet, int lane, int i, int n, int what) {
        boolean asTold = n >= 0 && n <= MOST_TWOS && what >= 0 && what <= 2;
        int trouble = rowTrouble(sheet, lane, i, 2 * n, asTold);
        if (trouble != 0) {
            return trouble;
        }
        if (wires.count == 0) {
            return STATE;
        }
        Sheet row = sheets[sheet];
        for (int two = 0; two < n; two++) {
            if (!wires.has(row.at(i + 2 * two))) {
                return UNKNOWN;
            }
        }
        return ofAdded(row, i, n, what);
    }

    private int ofAdded(Sheet row, int i, int n, int what) {
        int from = wires.numberNow();
        int last = Math.min(GREATEST_SMALL, wires.most - from);
        int found = 0;
        int first = NONE;
        int greatest = NONE;
        for (int v = 0; v <= last; v++) {
            if (standsSo(row, i, n, from + v)) {
                found++;
                first = first == NONE ? v : first;
                greatest = v;
            }
        }
        if (what == 0) {
            return found;
        }
        return what == 1 ? first : greatest;
    }

    private boolean standsSo(Sheet row, int i, int n, int value) {
        for (int two = 0; two < n; two++) {
            if (wires.figureOf(row.at(i + 2 * two), value) != row.at(i + 2 * two + 1)) {
                return false;
            }
        }
        return true;
    }

    public int turn(int what) {
        if (what < 0 || what > 1) {
            return OUTSIDE;
        }
        if (wires.count == 0) {
            return STATE;
        }
        /* He who leaves men whose counts' bits cancel out wins: Nim, so one wire's count must cancel the rest. */
        int bits = 0;
        for (int w = 0; w < wires.count; w++) {
            bits ^= wires.pushed[w];
        }
        for (int w = 0; w < wires.count; w++) {
            int left = wires.pushed[w] ^ bits;
            if (left < wires.pushed[w]) {
                return what == 0 ? w : left;
            }
        }
        return NONE;
    }

    // ---- 4 how it stood

    public int reading(int v, int w, int figure) {
        if (!wires.has(w)) {
            return UNKNOWN;
        }
        if (v < 0 || v > GREATEST_SMALL || figure < 0 || figure > GREATEST_FIGURE) {
            return OUTSIDE;
        }
        /* It is numbered by how many there are ahead of it: the first is 0. */
        int itsNumber = readings.count;
        return readings.keep(v, w, figure) ? itsNumber : FULL;
    }

    public int back(int n) {
        if (n < 0 || n > readings.count) {
            return OUTSIDE;
        }
        readings.count -= n;
        return readings.count;
    }

    public int mens(int w) {
        if (!wires.has(w)) {
            return UNKNOWN;
        }
        int set = 0;
        for (int men = 1; men <= MOST_MEN; men++) {
            if (couldBe(w, wires.kind[w], men)) {
                set |= 1 << men;
            }
        }
        return set;
    }

    public int kinds(int w) {
        if (!wires.has(w)) {
            return UNKNOWN;
        }
        int set = 0;
        for (int kind = 0; kind < KINDS; kind++) {
            if (couldBe(w, kind, wires.men[w])) {
                set |= 1 << kind;
            }
        }
        return set;
    }

    private boolean couldBe(int w, int kind, int men) {
        trial.become(wires);
        if (!trial.has(w)) {
            return false;
        }
        trial.kind[w] = kind;
        trial.men[w] = men;
        trial.measure();
        return trial.hasRoom() && readings.areSo(trial);
    }

    public long odds(int n, int which) {
        if (n < 0 || n > GREATEST_TOGETHER || which < 0 || which > 1) {
            return LOST;
        }
        if (wires.count == 0) {
            return LOST;
        }
        countWays();
        long all = (long) wires.most + 1;
        long divisor = greatestDivisor(all, ways[n]);
        if (divisor <= 0) {
            return LOST;
        }
        return (which == 0 ? ways[n] : all) / divisor;
    }

    private void countWays() {
        for (int n = 0; n <= GREATEST_TOGETHER; n++) {
            ways[n] = n == 0 ? 1 : 0;
        }
        for (int w = 0; w < wires.count; w++) {
            /* From the greatest down: the lower ones are then still without this wire. */
            for (int n = GREATEST_TOGETHER; n >= 0; n--) {
                long sum = 0;
                for (int here = 0; here <= wires.room[w] && here <= n; here++) {
                    sum += ways[n - here];
                }
                ways[n] = sum;
            }
        }
    }

    private static long greatestDivisor(long a, long b) {
        long greater = a;
        long less = b;
        /* Two steps halve at least, so no two longs need as many steps as this. */
        for (int step = 0; step < 200 && less != 0; step++) {
            long rest = greater % less;
            greater = less;
            less = rest;
        }
        return greater;
    }

    // ---- 5 sheets, parts

    public int sheet(int k, int lane, int n) {
        lastFault = 0;
        if (!isSheet(k)) {
            return UNKNOWN;
        }
        if (!isLane(lane) || n > MOST_CELLS) {
            return OUTSIDE;
        }
        if (n < 0) {
            return faulted(SIZE_FAULT);
        }
        sheets[k].begin(lane, n);
        return 1;
    }

    public int lose(int k) {
        if (!isSheet(k)) {
            return UNKNOWN;
        }
        boolean had = sheets[k].isThere;
        sheets[k].isThere = false;
        return had ? 1 : 0;
    }

    public int put(int k, int i, int v) {
        lastFault = 0;
        if (!isSheet(k)) {
            return UNKNOWN;
        }
        if (!sheets[k].isThere) {
            return faulted(NULL_FAULT);
        }
        if (!sheets[k].reaches(i, 1)) {
            return faulted(INDEX_FAULT);
        }
        sheets[k].write(i, v);
        return 1;
    }

    public long cell(int k, int i, int lane) {
        int trouble = rowTrouble(k, lane, i, 1, true);
        return trouble != 0 ? LOST : sheets[k].at(i);
    }

    public int copy(int k, int i, int other, int j, int n) {
        lastFault = 0;
        if (!isSheet(k) || !isSheet(other)) {
            return UNKNOWN;
        }
        Sheet from = sheets[k];
        Sheet to = sheets[other];
        if (!from.isThere || !to.isThere) {
            return faulted(NULL_FAULT);
        }
        if (from.lane != to.lane) {
            return faulted(CAST_FAULT);
        }
        if (!from.reaches(i, n) || !to.reaches(j, n)) {
            return faulted(INDEX_FAULT);
        }
        System.arraycopy(from.cells, i, to.cells, j, n);
        return n;
    }

    public int tell(int w) {
        if (!wires.has(w)) {
            return UNKNOWN;
        }
        switch (wires.kind[w]) {
            case WINDOWED:
                return windowedTells(wires.men[w]);
            case LONG:
                return longTells(wires.men[w]);
            default:
                return plainTells(wires.men[w]);
        }
    }

    private int plainTells(int men) {
        leaveTrace(PLAIN_BODY);
        return men;
    }

    private int longTells(int men) {
        leaveTrace(LONG_BODY);
        return plainTells(men) + LONG_MORE;
    }

    private int windowedTells(int men) {
        leaveTrace(WINDOWED_BODY);
        int asLong = longTells(men);
        return asLong + plainTells(men);
    }

    public int feel(int w) {
        if (!wires.has(w)) {
            return UNKNOWN;
        }
        if (wires.kind[w] == WINDOWED) {
            leaveTrace(OWN_BODY);
            return WINDOWED_FELT;
        }
        leaveTrace(LENT_BODY);
        return wires.pushed[w];
    }

    private void leaveTrace(int body) {
        traced = 31 * traced + body;
    }

    public int as(int w, int kind) {
        lastFault = 0;
        if (!wires.has(w)) {
            return UNKNOWN;
        }
        if (kind < 0 || kind >= KINDS) {
            return OUTSIDE;
        }
        /* Each kind is one of every kind numbered below it. */
        return kind > wires.kind[w] ? faulted(CAST_FAULT) : 1;
    }

    public int trace() {
        return traced;
    }

    public int fault() {
        return lastFault;
    }

    public int many(int what) {
        switch (what) {
            case 0:
                return wires.count;
            case 1:
                return wires.menTogether();
            case 2:
                return readings.count;
            default:
                return OUTSIDE;
        }
    }

    private static boolean isSheet(int k) {
        return k >= 0 && k < SHEETS;
    }

    private static boolean isLane(int lane) {
        return lane >= 0 && lane < LANES;
    }

    private int faulted(int what) {
        lastFault = what;
        return FAULT_BASE - what;
    }

    /* What stops a call that takes cells of a sheet as a row of a lane, 0 if nothing does: all such calls ask in this order. */
    private int rowTrouble(int sheet, int lane, int i, int cells, boolean restAsTold) {
        lastFault = 0;
        if (!isSheet(sheet)) {
            return UNKNOWN;
        }
        if (!isLane(lane) || !restAsTold) {
            return OUTSIDE;
        }
        Sheet row = sheets[sheet];
        if (!row.isThere) {
            return faulted(NULL_FAULT);
        }
        if (row.lane != lane) {
            return faulted(CAST_FAULT);
        }
        if (cells < 0) {
            return faulted(SIZE_FAULT);
        }
        return row.reaches(i, cells) ? 0 : faulted(INDEX_FAULT);
    }

    private static int roomOf(int kind, int men) {
        if (kind == WINDOWED) {
            return 2 * men;
        }
        return kind == LONG ? men + 1 : men;
    }

    /** The wires of a frame, the lowest first; a frame without wires is none. */
    private static final class Wires {
        final int[] kind = new int[MOST_WIRES];
        final int[] men = new int[MOST_WIRES];
        final int[] pushed = new int[MOST_WIRES];
        final int[] room = new int[MOST_WIRES];
        final int[] worth = new int[MOST_WIRES];
        int count = 0;
        int most = 0;

        boolean has(int w) {
            return w >= 0 && w < count && w < MOST_WIRES;
        }

        void become(Wires other) {
            for (int w = 0; w < MOST_WIRES; w++) {
                kind[w] = other.kind[w];
                men[w] = other.men[w];
                pushed[w] = other.pushed[w];
            }
            count = other.count;
            measure();
        }

        /* Room, worth and the greatest number follow from kinds and men alone. */
        void measure() {
            int each = 1;
            for (int w = 0; w < count; w++) {
                room[w] = roomOf(kind[w], men[w]);
                worth[w] = each;
                each *= room[w] + 1;
            }
            most = each - 1;
        }

        boolean hasRoom() {
            for (int w = 0; w < count; w++) {
                if (pushed[w] > room[w]) {
                    return false;
                }
            }
            return true;
        }

        int numberNow() {
            int sum = 0;
            for (int w = 0; w < count; w++) {
                sum += pushed[w] * worth[w];
            }
            return sum;
        }

        int pushedTogether() {
            int sum = 0;
            for (int w = 0; w < count; w++) {
                sum += pushed[w];
            }
            return sum;
        }

        int menTogether() {
            int sum = 0;
            for (int w = 0; w < count; w++) {
                sum += men[w];
            }
            return sum;
        }

        int figureOf(int w, int v) {
            if (!has(w) || worth[w] <= 0 || room[w] < 0) {
                return 0;
            }
            return v / worth[w] % (room[w] + 1);
        }

        boolean canSum(int v) {
            return count > 0 && v <= most - numberNow();
        }

        boolean canTake(int v) {
            return count > 0 && v <= numberNow();
        }

        int slidBetween(int from, int to) {
            int slid = 0;
            for (int w = 0; w < count; w++) {
                slid += Math.abs(figureOf(w, to) - figureOf(w, from));
            }
            return slid;
        }

        int carriedBy(int from, int v) {
            int carried = 0;
            int over = 0;
            for (int w = 0; w < count; w++) {
                over = figureOf(w, from) + figureOf(w, v) + over > room[w] ? 1 : 0;
                carried += over;
            }
            return carried;
        }

        int moveTo(int v) {
            int slid = slidBetween(numberNow(), v);
            for (int w = 0; w < count; w++) {
                pushed[w] = figureOf(w, v);
            }
            return slid;
        }
    }

    /** A sheet's row; its cells are made once and used for every row that it gets. */
    private static final class Sheet {
        final int[] cells = new int[MOST_CELLS];
        boolean isThere = false;
        int lane = 0;
        int length = 0;

        void begin(int newLane, int newLength) {
            for (int i = 0; i < MOST_CELLS; i++) {
                cells[i] = 0;
            }
            isThere = true;
            lane = newLane;
            length = newLength;
        }

        boolean reaches(int i, int n) {
            return i >= 0 && i <= length && n >= 0 && n <= length - i;
        }

        int at(int i) {
            return i >= 0 && i < length && i < MOST_CELLS ? cells[i] : 0;
        }

        void write(int i, int v) {
            if (i >= 0 && i < length && i < MOST_CELLS) {
                cells[i] = cutToLane(v);
            }
        }

        int cutToLane(int v) {
            if (lane == BYTES) {
                return (byte) v;
            }
            return lane == SHORTS ? (short) v : v;
        }

        boolean allWithin(int i, int n, int greatest) {
            for (int c = 0; c < n; c++) {
                if (at(i + c) < 0 || at(i + c) > greatest) {
                    return false;
                }
            }
            return true;
        }
    }

    /** Reads a text; what it makes is taken over by the frame only if the whole text is one. */
    private static final class Text {
        static final int HEAD = 1, WIRE_CODES = 4;
        final Wires made = new Wires();

        int firstFault(Sheet row, int from, int n) {
            made.count = 0;
            for (int place = 0; place < n; place++) {
                if (!goesOn(place, row.at(from + place))) {
                    return place;
                }
            }
            boolean ends = n >= HEAD && (n - HEAD) % WIRE_CODES == 0 && made.count >= LEAST_WIRES;
            return ends ? NONE : n;
        }

        boolean goesOn(int place, int code) {
            if (place < HEAD) {
                return code == 'a';
            }
            int w = made.count;
            if (w < 0 || w >= MOST_WIRES) {
                return false;
            }
            switch ((place - HEAD) % WIRE_CODES) {
                case 0:
                    return code == ';';
                case 1:
                    made.kind[w] = kindOf(code);
                    return made.kind[w] != NONE;
                case 2:
                    made.men[w] = code - '0';
                    return code >= '1' && code <= '9';
                default:
                    made.pushed[w] = code - '0';
                    made.count = w + 1;
                    return code >= '0' && code <= '9' && code - '0' <= roomOf(made.kind[w], made.men[w]);
            }
        }

        static int kindOf(int code) {
            switch (code) {
                case 'w':
                    return PLAIN;
                case 'l':
                    return LONG;
                case 'o':
                    return WINDOWED;
                default:
                    return NONE;
            }
        }
    }

    /** What comes of a day's acts, up to the first that can't be. */
    private static final class Day {
        int firstWrong = NONE;
        int slid = 0;
        int carried = 0;
        int greatest = 0;

        void run(Wires on, Sheet row, int i, int n) {
            firstWrong = NONE;
            slid = 0;
            carried = 0;
            greatest = on.numberNow();
            for (int act = 0; act < n && firstWrong == NONE; act++) {
                if (isDone(on, row.at(i + 2 * act), row.at(i + 2 * act + 1))) {
                    greatest = Math.max(greatest, on.numberNow());
                } else {
                    firstWrong = act;
                }
            }
        }

        boolean isDone(Wires on, int first, int second) {
            switch (second) {
                case ACT_SUM:
                    return isSummed(on, first);
                case ACT_TAKING:
                    return isTaken(on, first);
                default:
                    return isPushed(on, first, second - ACT_PUSH);
            }
        }

        boolean isSummed(Wires on, int v) {
            if (!on.canSum(v)) {
                return false;
            }
            int from = on.numberNow();
            carried += on.carriedBy(from, v);
            slid += on.moveTo(from + v);
            return true;
        }

        boolean isTaken(Wires on, int v) {
            if (!on.canTake(v)) {
                return false;
            }
            int to = on.numberNow() - v;
            carried += on.carriedBy(to, v);
            slid += on.moveTo(to);
            return true;
        }

        boolean isPushed(Wires on, int w, int v) {
            if (!on.has(w) || v > on.room[w]) {
                return false;
            }
            slid += Math.abs(v - on.pushed[w]);
            on.pushed[w] = v;
            return true;
        }
    }

    /** Finds the row of sums with the least sliding; sets of places are bits. */
    private static final class Order {
        static final int SETS = 1 << MOST_ORDERED;
        /* Of each set of sums that are done: what they are together, which comes next, the sliding of all that follow. */
        final int[] sumOf = new int[SETS];
        final int[] nextOf = new int[SETS];
        final int[] slidBehind = new int[SETS];

        boolean find(Wires on, Sheet told, int i, int n) {
            if (n < 0 || n > MOST_ORDERED) {
                return false;
            }
            int all = (1 << n) - 1;
            for (int set = 0; set <= all; set++) {
                sumOf[set] = sumOfSet(told, i, n, set);
            }
            if (!on.canSum(sumOf[all])) {
                return false;
            }
            slidBehind[all] = 0;
            nextOf[all] = NONE;
            /* A set's own sets are numbered below it, so downwards all that may follow is known. */
            for (int set = all - 1; set >= 0; set--) {
                chooseNext(on, set, n);
            }
            return true;
        }

        static int sumOfSet(Sheet told, int i, int n, int set) {
            int sum = 0;
            for (int place = 0; place < n; place++) {
                sum += (set >> place & 1) == 1 ? told.at(i + place) : 0;
            }
            return sum;
        }

        void chooseNext(Wires on, int set, int n) {
            int from = on.numberNow();
            int best = NONE;
            int least = 0;
            for (int place = 0; place < n && place < MOST_ORDERED; place++) {
                int with = set | 1 << place;
                if (with != set) {
                    int slid = on.slidBetween(from + sumOf[set], from + sumOf[with]) + slidBehind[with];
                    /* Only less is better: of several rows the first is asked for. */
                    if (best == NONE || slid < least) {
                        best = place;
                        least = slid;
                    }
                }
            }
            nextOf[set] = best;
            slidBehind[set] = least;
        }

        int slidInAll() {
            return slidBehind[0];
        }

        int placeAt(int k) {
            int set = 0;
            int place = nextOf[set];
            for (int step = 0; step < k && place >= 0 && place < MOST_ORDERED; step++) {
                set |= 1 << place;
                place = nextOf[set];
            }
            return place;
        }
    }

    /** What was read, kept until it is taken back or the frame is made anew. */
    private static final class Readings {
        final int[] sum = new int[MOST_READINGS];
        final int[] wire = new int[MOST_READINGS];
        final int[] seen = new int[MOST_READINGS];
        int count = 0;

        boolean keep(int v, int w, int figure) {
            if (count < 0 || count >= MOST_READINGS) {
                return false;
            }
            sum[count] = v;
            wire[count] = w;
            seen[count] = figure;
            count++;
            return true;
        }

        boolean areSo(Wires on) {
            int from = on.numberNow();
            for (int r = 0; r < count && r < MOST_READINGS; r++) {
                if (!on.canSum(sum[r]) || on.figureOf(wire[r], from + sum[r]) != seen[r]) {
                    return false;
                }
            }
            return true;
        }
    }
}
