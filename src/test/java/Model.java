import java.util.ArrayList;
import java.util.Arrays;
import java.util.HashMap;
import java.util.List;
import java.util.Map;
import java.util.regex.Matcher;
import java.util.regex.Pattern;

/**
 * The document once more, by other ways than the class's: real rows and casts whose exceptions are caught,
 * classes that extend one another, counting up, trying all rows, playing the game out.
 */
final class Model {
    private static final Pattern TEXT = Pattern.compile(textPattern());

    interface Feeling {
        Model owner();

        int standing();

        default int felt() {
            owner().leave(4);
            return standing();
        }
    }

    static class Plain implements Feeling {
        final Model owner;
        final int men;
        int pushed;

        Plain(Model owner, int men, int pushed) {
            this.owner = owner;
            this.men = men;
            this.pushed = pushed;
        }

        public Model owner() {
            return owner;
        }

        public int standing() {
            return pushed;
        }

        int room() {
            return men;
        }

        int kind() {
            return 0;
        }

        int told() {
            return plainTold();
        }

        final int plainTold() {
            owner.leave(1);
            return men;
        }
    }

    static class Longer extends Plain {
        Longer(Model owner, int men, int pushed) {
            super(owner, men, pushed);
        }

        int room() {
            return super.room() + 1;
        }

        int kind() {
            return 1;
        }

        int told() {
            owner.leave(2);
            return super.told() + 100;
        }
    }

    static final class Windowed extends Longer {
        Windowed(Model owner, int men, int pushed) {
            super(owner, men, pushed);
        }

        int room() {
            return men + men;
        }

        int kind() {
            return 2;
        }

        int told() {
            owner.leave(3);
            return super.told() + plainTold();
        }

        public int felt() {
            owner.leave(5);
            return 90;
        }
    }

    private List<Plain> wires = new ArrayList<>();
    private final Object[] sheets = new Object[4];
    private final List<int[]> readings = new ArrayList<>();
    private int trace = 0;
    private int fault = 0;

    private static String textPattern() {
        StringBuilder wire = new StringBuilder();
        for (int men = 1; men <= 9; men++) {
            int[] rooms = {men, men + 1, 2 * men};
            for (int kind = 0; kind < 3; kind++) {
                wire.append(wire.length() == 0 ? "" : "|").append("wlo".charAt(kind)).append(men);
                wire.append("[0-").append(Math.min(9, rooms[kind])).append("]");
            }
        }
        return "a(?:;(?:" + wire + ")){2,6}";
    }

    void leave(int body) {
        trace = trace * 31 + body;
    }

    private Plain wireOf(int kind, int men, int pushed) {
        return kind == 0 ? new Plain(this, men, pushed) : kind == 1 ? new Longer(this, men, pushed) : new Windowed(this, men, pushed);
    }

    private boolean has(int w) {
        return w >= 0 && w < wires.size();
    }

    private static int worth(List<Plain> on, int w) {
        return w == 0 ? 1 : worth(on, w - 1) * (on.get(w - 1).room() + 1);
    }

    private static int most(List<Plain> on) {
        int sum = 0;
        for (int w = 0; w < on.size(); w++) {
            sum += on.get(w).room() * worth(on, w);
        }
        return sum;
    }

    private static int value(List<Plain> on) {
        int sum = 0;
        for (int w = 0; w < on.size(); w++) {
            sum += on.get(w).pushed * worth(on, w);
        }
        return sum;
    }

    /** From the dearest wire down, as many as go. */
    private static int[] figures(List<Plain> on, int v) {
        int[] figures = new int[on.size()];
        int rest = v;
        for (int w = on.size() - 1; w >= 0; w--) {
            while (rest >= worth(on, w)) {
                rest -= worth(on, w);
                figures[w]++;
            }
        }
        return figures;
    }

    private static int slid(List<Plain> on, int from, int to) {
        int[] a = figures(on, from);
        int[] b = figures(on, to);
        int sum = 0;
        for (int w = 0; w < a.length; w++) {
            sum += Math.abs(a[w] - b[w]);
        }
        return sum;
    }

    /** Something goes over from a wire where what lies on it and below it is together worth one on the next. */
    private static int carried(List<Plain> on, int a, int b) {
        int count = 0;
        for (int w = 0; w + 1 < on.size(); w++) {
            int next = worth(on, w + 1);
            if (a % next + b % next >= next) {
                count++;
            }
        }
        return count;
    }

    private void stand(List<Plain> on, int v) {
        int[] figures = figures(on, v);
        for (int w = 0; w < figures.length; w++) {
            on.get(w).pushed = figures[w];
        }
    }

    private int fail(RuntimeException e) {
        if (e instanceof NullPointerException) {
            fault = 1;
        } else if (e instanceof ClassCastException || e instanceof ArrayStoreException) {
            fault = 2;
        } else if (e instanceof IndexOutOfBoundsException) {
            fault = 3;
        } else if (e instanceof NegativeArraySizeException) {
            fault = 4;
        } else {
            throw e;
        }
        return -10 - fault;
    }

    private static int[] cells(Object row, int lane, int i, int n) {
        if (lane == 0) {
            byte[] from = (byte[]) row;
            int length = from.length;
            int[] to = new int[Math.min(n, 100)];
            byte[] some = new byte[100];
            System.arraycopy(from, i, some, 0, Math.min(n, 100));
            for (int c = 0; c < to.length; c++) {
                to[c] = some[c];
            }
            return to;
        }
        if (lane == 1) {
            short[] from = (short[]) row;
            int length = from.length;
            int[] to = new int[Math.min(n, 100)];
            short[] some = new short[100];
            System.arraycopy(from, i, some, 0, Math.min(n, 100));
            for (int c = 0; c < to.length; c++) {
                to[c] = some[c];
            }
            return to;
        }
        int[] from = (int[]) row;
        int length = from.length;
        int[] to = new int[Math.min(n, 100)];
        System.arraycopy(from, i, to, 0, Math.min(n, 100));
        return to;
    }

    int frame(int sheet, int lane, int i, int n) {
        fault = 0;
        if (sheet < 0 || sheet > 3) {
            return -1;
        }
        if (lane < 0 || lane > 2) {
            return -2;
        }
        int[] codes;
        try {
            codes = cells(sheets[sheet], lane, i, n);
        } catch (RuntimeException e) {
            return fail(e);
        }
        StringBuilder text = new StringBuilder();
        for (int code : codes) {
            text.append(code > 0 && code < 127 ? (char) code : '!');
        }
        if (!TEXT.matcher(text).matches()) {
            for (int end = 1; end <= text.length(); end++) {
                Matcher m = TEXT.matcher(text.substring(0, end));
                if (!m.matches() && !m.hitEnd()) {
                    return -100 - (end - 1);
                }
            }
            return -100 - text.length();
        }
        wires = new ArrayList<>();
        for (String wire : text.substring(2).split(";")) {
            wires.add(wireOf("wlo".indexOf(wire.charAt(0)), wire.charAt(1) - 48, wire.charAt(2) - 48));
        }
        readings.clear();
        return wires.size();
    }

    int ofWire(int w, int what) {
        if (!has(w)) {
            return -1;
        }
        Plain wire = wires.get(w);
        int[] all = {wire.kind(), wire.men, wire.room(), wire.pushed, worth(wires, w)};
        return what < 0 || what > 4 ? -2 : all[what];
    }

    int number(int what) {
        if (what < 0 || what > 2) {
            return -2;
        }
        if (wires.isEmpty()) {
            return -3;
        }
        return what == 0 ? value(wires) : what == 1 ? most(wires) : wires.stream().mapToInt(w -> w.pushed).sum();
    }

    int figure(int w, int v) {
        return !has(w) ? -1 : v < 0 || v > most(wires) ? -2 : figures(wires, v)[w];
    }

    int slide(int w, int v) {
        if (!has(w)) {
            return -1;
        }
        if (v < 0 || v > wires.get(w).room()) {
            return -2;
        }
        int was = wires.get(w).pushed;
        wires.get(w).pushed = v;
        return was;
    }

    int add(int v) {
        int answer = work(v, 0);
        if (answer >= 0) {
            stand(wires, value(wires) + v);
        }
        return answer;
    }

    int take(int v) {
        if (v < 0) {
            return -2;
        }
        if (wires.isEmpty() || v > value(wires)) {
            return -3;
        }
        int from = value(wires);
        stand(wires, from - v);
        return slid(wires, from, from - v);
    }

    int work(int v, int what) {
        if (v < 0 || what < 0 || what > 1) {
            return -2;
        }
        if (wires.isEmpty() || (long) value(wires) + v > most(wires)) {
            return -3;
        }
        int from = value(wires);
        return what == 0 ? slid(wires, from, from + v) : carried(wires, from, v);
    }

    private List<Plain> copyOfWires() {
        List<Plain> on = new ArrayList<>();
        for (Plain wire : wires) {
            on.add(wireOf(wire.kind(), wire.men, wire.pushed));
        }
        return on;
    }

    int day(int sheet, int lane, int i, int n, int what) {
        fault = 0;
        if (sheet < 0 || sheet > 3) {
            return -1;
        }
        if (lane < 0 || lane > 2 || n < 0 || n > 20 || what < 0 || what > 15 || what > 4 && what < 10) {
            return -2;
        }
        int[] cells;
        try {
            cells = cells(sheets[sheet], lane, i, 2 * n);
        } catch (RuntimeException e) {
            return fail(e);
        }
        if (wires.isEmpty()) {
            return -3;
        }
        for (int c = 0; c < cells.length; c += 2) {
            if (cells[c + 1] >= 10 && cells[c + 1] <= 28) {
                if (!has(cells[c])) {
                    return -1;
                }
            } else if (cells[c + 1] < 0 || cells[c + 1] > 1 || cells[c] < 0 || cells[c] > 99999) {
                return -2;
            }
        }
        return dayRun(cells, what);
    }

    private int dayRun(int[] cells, int what) {
        List<Plain> on = copyOfWires();
        int wrong = -9;
        int slid = 0;
        int carried = 0;
        int greatest = value(on);
        for (int c = 0; c < cells.length && wrong < 0; c += 2) {
            int from = value(on);
            int act = cells[c + 1];
            int v = cells[c];
            if (act >= 10) {
                Plain wire = on.get(v);
                if (act - 10 > wire.room()) {
                    wrong = c / 2;
                } else {
                    slid += Math.abs(act - 10 - wire.pushed);
                    wire.pushed = act - 10;
                }
            } else {
                int to = act == 0 ? from + v : from - v;
                if (to < 0 || to > most(on)) {
                    wrong = c / 2;
                } else {
                    slid += slid(on, from, to);
                    carried += carried(on, Math.min(from, to), v);
                    stand(on, to);
                }
            }
            greatest = Math.max(greatest, value(on));
        }
        if (what == 1) {
            return wrong;
        }
        if (wrong >= 0) {
            return -100 - wrong;
        }
        int[] plain = {value(on), 0, slid, carried, greatest};
        return what < 5 ? plain[what] : has(what - 10) ? on.get(what - 10).pushed : -9;
    }

    int order(int sheet, int lane, int i, int n, int k) {
        fault = 0;
        if (sheet < 0 || sheet > 3) {
            return -1;
        }
        if (lane < 0 || lane > 2 || n < 0 || n > 6 || k < -1 || k > 5) {
            return -2;
        }
        int[] cells;
        try {
            cells = cells(sheets[sheet], lane, i, n);
        } catch (RuntimeException e) {
            return fail(e);
        }
        if (wires.isEmpty()) {
            return -3;
        }
        long all = value(wires);
        for (int cell : cells) {
            if (cell < 0 || cell > 99999) {
                return -2;
            }
            all += cell;
        }
        if (all > most(wires)) {
            return -9;
        }
        int[] best = new int[n];
        int[] least = {Integer.MAX_VALUE};
        tryRows(cells, new int[n], 0, value(wires), 0, best, least);
        return k < 0 ? least[0] : k < n ? best[k] : -9;
    }

    private void tryRows(int[] cells, int[] row, int done, int at, int slid, int[] best, int[] least) {
        if (done == cells.length) {
            if (slid < least[0]) {
                least[0] = slid;
                System.arraycopy(row, 0, best, 0, done);
            }
            return;
        }
        for (int place = 0; place < cells.length; place++) {
            boolean used = false;
            for (int d = 0; d < done; d++) {
                used |= row[d] == place;
            }
            if (!used) {
                row[done] = place;
                tryRows(cells, row, done + 1, at + cells[place], slid + slid(wires, at, at + cells[place]), best, least);
            }
        }
    }

    int fewest(int sheet, int lane, int i, int n, int d) {
        fault = 0;
        if (sheet < 0 || sheet > 3) {
            return -1;
        }
        if (lane < 0 || lane > 2 || n < 0 || n > 8 || d < 0 || d > 999) {
            return -2;
        }
        int[] cells;
        try {
            cells = cells(sheets[sheet], lane, i, n);
        } catch (RuntimeException e) {
            return fail(e);
        }
        for (int cell : cells) {
            if (cell < 0 || cell > 999) {
                return -2;
            }
        }
        boolean[] come = new boolean[1000];
        come[0] = true;
        for (int sums = 0; sums <= 999; sums++) {
            if (come[d]) {
                return sums;
            }
            boolean[] next = new boolean[1000];
            for (int at = 0; at < 1000; at++) {
                for (int cell : cells) {
                    if (come[at] && at + cell < 1000) {
                        next[at + cell] = true;
                    }
                }
            }
            come = next;
        }
        return -9;
    }

    int added(int sheet, int lane, int i, int n, int what) {
        fault = 0;
        if (sheet < 0 || sheet > 3) {
            return -1;
        }
        if (lane < 0 || lane > 2 || n < 0 || n > 10 || what < 0 || what > 2) {
            return -2;
        }
        int[] cells;
        try {
            cells = cells(sheets[sheet], lane, i, 2 * n);
        } catch (RuntimeException e) {
            return fail(e);
        }
        if (wires.isEmpty()) {
            return -3;
        }
        for (int c = 0; c < cells.length; c += 2) {
            if (!has(cells[c])) {
                return -1;
            }
        }
        List<Integer> found = new ArrayList<>();
        for (int v = 0; v < 1000 && value(wires) + v <= most(wires); v++) {
            int[] figures = figures(wires, value(wires) + v);
            boolean so = true;
            for (int c = 0; c < cells.length; c += 2) {
                so &= figures[cells[c]] == cells[c + 1];
            }
            if (so) {
                found.add(v);
            }
        }
        return what == 0 ? found.size() : found.isEmpty() ? -9 : found.get(what == 1 ? 0 : found.size() - 1);
    }

    /** Played out, where the game is small enough; -999 where it's not. */
    int turn(int what) {
        if (what < 0 || what > 1) {
            return -2;
        }
        if (wires.isEmpty()) {
            return -3;
        }
        int[] men = wires.stream().mapToInt(w -> w.pushed).toArray();
        long games = 1;
        for (int m : men) {
            games *= m + 1;
        }
        if (games > 3000) {
            return -999;
        }
        Map<String, Boolean> known = new HashMap<>();
        for (int w = 0; w < men.length; w++) {
            for (int left = 0; left < men[w]; left++) {
                int[] then = men.clone();
                then[w] = left;
                if (!wins(then, known)) {
                    return what == 0 ? w : left;
                }
            }
        }
        return -9;
    }

    private static boolean wins(int[] men, Map<String, Boolean> known) {
        String key = Arrays.toString(men);
        Boolean before = known.get(key);
        if (before != null) {
            return before;
        }
        boolean wins = false;
        for (int w = 0; w < men.length && !wins; w++) {
            for (int left = 0; left < men[w] && !wins; left++) {
                int[] then = men.clone();
                then[w] = left;
                wins = !wins(then, known);
            }
        }
        known.put(key, wins);
        return wins;
    }

    int reading(int v, int w, int figure) {
        if (!has(w)) {
            return -1;
        }
        if (v < 0 || v > 999 || figure < 0 || figure > 18) {
            return -2;
        }
        if (readings.size() == 8) {
            return -4;
        }
        readings.add(new int[] {v, w, figure});
        return readings.size() - 1;
    }

    int back(int n) {
        if (n < 0 || n > readings.size()) {
            return -2;
        }
        for (int r = 0; r < n; r++) {
            readings.remove(readings.size() - 1);
        }
        return readings.size();
    }

    private boolean could(int w, int kind, int men) {
        List<Plain> on = copyOfWires();
        on.set(w, wireOf(kind, men, wires.get(w).pushed));
        for (Plain wire : on) {
            if (wire.pushed > wire.room()) {
                return false;
            }
        }
        for (int[] r : readings) {
            int to = value(on) + r[0];
            if (to > most(on) || figures(on, to)[r[1]] != r[2]) {
                return false;
            }
        }
        return true;
    }

    int mens(int w) {
        if (!has(w)) {
            return -1;
        }
        int set = 0;
        for (int men = 1; men <= 9; men++) {
            set += could(w, wires.get(w).kind(), men) ? 1 << men : 0;
        }
        return set;
    }

    int kinds(int w) {
        if (!has(w)) {
            return -1;
        }
        int set = 0;
        for (int kind = 0; kind <= 2; kind++) {
            set += could(w, kind, wires.get(w).men) ? 1 << kind : 0;
        }
        return set;
    }

    private static long ways(List<Plain> on, int w, int n) {
        if (w == on.size()) {
            return n == 0 ? 1 : 0;
        }
        long sum = 0;
        for (int here = 0; here <= on.get(w).room() && here <= n; here++) {
            sum += ways(on, w + 1, n - here);
        }
        return sum;
    }

    /** -999 where there are too many numbers to count each. */
    long odds(int n, int which) {
        if (n < 0 || n > 108 || which < 0 || which > 1 || wires.isEmpty()) {
            return Long.MIN_VALUE;
        }
        if (most(wires) > 300000) {
            return -999;
        }
        long upper = ways(wires, 0, n);
        long lower = most(wires) + 1L;
        long divisor = java.math.BigInteger.valueOf(upper).gcd(java.math.BigInteger.valueOf(lower)).longValue();
        return (which == 0 ? upper : lower) / divisor;
    }

    int sheet(int k, int lane, int n) {
        fault = 0;
        if (k < 0 || k > 3) {
            return -1;
        }
        if (lane < 0 || lane > 2 || n > 60) {
            return -2;
        }
        try {
            sheets[k] = lane == 0 ? new byte[n] : lane == 1 ? (Object) new short[n] : new int[n];
            return 1;
        } catch (RuntimeException e) {
            return fail(e);
        }
    }

    int lose(int k) {
        if (k < 0 || k > 3) {
            return -1;
        }
        int had = sheets[k] == null ? 0 : 1;
        sheets[k] = null;
        return had;
    }

    int put(int k, int i, int v) {
        fault = 0;
        if (k < 0 || k > 3) {
            return -1;
        }
        try {
            if (sheets[k] instanceof byte[] row) {
                row[i] = (byte) v;
            } else if (sheets[k] instanceof short[] row) {
                row[i] = (short) v;
            } else {
                ((int[]) sheets[k])[i] = v;
            }
            return 1;
        } catch (RuntimeException e) {
            return fail(e);
        }
    }

    long cell(int k, int i, int lane) {
        fault = 0;
        if (k < 0 || k > 3 || lane < 0 || lane > 2) {
            return Long.MIN_VALUE;
        }
        try {
            return lane == 0 ? ((byte[]) sheets[k])[i] : lane == 1 ? ((short[]) sheets[k])[i] : ((int[]) sheets[k])[i];
        } catch (RuntimeException e) {
            fail(e);
            return Long.MIN_VALUE;
        }
    }

    int copy(int k, int i, int other, int j, int n) {
        fault = 0;
        if (k < 0 || k > 3 || other < 0 || other > 3) {
            return -1;
        }
        try {
            System.arraycopy(sheets[k], i, sheets[other], j, n);
            return n;
        } catch (RuntimeException e) {
            return fail(e);
        }
    }

    int tell(int w) {
        return has(w) ? wires.get(w).told() : -1;
    }

    int feel(int w) {
        return has(w) ? wires.get(w).felt() : -1;
    }

    int as(int w, int kind) {
        fault = 0;
        if (!has(w)) {
            return -1;
        }
        if (kind < 0 || kind > 2) {
            return -2;
        }
        try {
            Object wire = wires.get(w);
            Plain taken = kind == 0 ? (Plain) wire : kind == 1 ? (Longer) wire : (Windowed) wire;
            return taken == null ? 0 : 1;
        } catch (RuntimeException e) {
            return fail(e);
        }
    }

    int trace() {
        return trace;
    }

    int fault() {
        return fault;
    }

    int many(int what) {
        return what == 0 ? wires.size() : what == 1 ? wires.stream().mapToInt(w -> w.men).sum() : what == 2 ? readings.size() : -2;
    }
}
