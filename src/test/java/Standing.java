import java.util.ArrayList;
import java.util.List;

/** An object on which all stands that calls can change, all that calls tell of it, and calls by their names. */
final class Standing {
    static final int FRAMED = 0, BARE = 1, FULL = 2;
    /* Rooms 9, 3, 4; worths 1, 10, 40; MOST 199; it stands at 163. */
    static final String TEXT = "a;w93;l20;o24";
    /* From an even place on: a SUM of 7; wire 0 at 2 as a two; then pairs that are refused. */
    static final int[] CELLS = {7, 0, 0, 2, -1, 0, 100000, 1, 3, 10, -1, 28, 1000, 1};
    static final int[] SHORTS = {-1, 32767, 2, 0};

    private Standing() {
    }

    /** The same each time: with a frame and two readings, without a frame, or with eight readings; fault() tells 1 or 4. */
    static GuardAbacus make(int state, int fault) {
        GuardAbacus x = state == BARE ? new GuardAbacus() : Check.of(TEXT);
        if (state == BARE) {
            Check.write(x, 0, 0, TEXT);
        }
        Check.row(x, 1, CELLS);
        x.sheet(2, 1, SHORTS.length);
        for (int i = 0; i < SHORTS.length; i++) {
            x.put(2, i, SHORTS[i]);
        }
        x.tell(2);
        x.reading(7, 0, 0);
        x.reading(20, 1, 2);
        for (int r = 2; r < 8 && state == FULL; r++) {
            x.reading(r, 2, 4);
        }
        if (fault == 1) {
            x.put(3, 0, 0);
        } else {
            x.sheet(3, 0, -1);
        }
        return x;
    }

    /** All that calls tell but fault(); the object is used up by it, within its 512 calls. */
    static List<Long> told(GuardAbacus x) {
        List<Long> all = new ArrayList<>();
        for (int what = 0; what < 3; what++) {
            all.add((long) x.number(what));
            all.add((long) x.many(what));
        }
        all.add((long) x.trace());
        for (int w = 0; w < 4; w++) {
            for (int what = 0; what < 5; what++) {
                all.add((long) x.ofWire(w, what));
            }
        }
        for (int k = 0; k < 4; k++) {
            for (int lane = 0; lane < 3; lane++) {
                tellRow(x, k, lane, all);
            }
        }
        for (int r = x.many(2); r >= 0; r--) {
            for (int w = 0; w < 3; w++) {
                all.add((long) x.mens(w));
                all.add((long) x.kinds(w));
            }
            all.add((long) x.back(r == 0 ? 0 : 1));
        }
        return all;
    }

    private static void tellRow(GuardAbacus x, int k, int lane, List<Long> all) {
        for (int i = 0; i <= 60; i++) {
            long cell = x.cell(k, i, lane);
            all.add(cell);
            if (cell == GuardAbacus.LOST) {
                all.add((long) x.fault());
                return;
            }
        }
    }

    static long call(GuardAbacus x, String name, int... a) {
        return switch (name) {
            case "frame" -> x.frame(a[0], a[1], a[2], a[3]);
            case "ofWire" -> x.ofWire(a[0], a[1]);
            case "number" -> x.number(a[0]);
            case "figure" -> x.figure(a[0], a[1]);
            case "slide" -> x.slide(a[0], a[1]);
            case "add" -> x.add(a[0]);
            case "take" -> x.take(a[0]);
            case "work" -> x.work(a[0], a[1]);
            case "day" -> x.day(a[0], a[1], a[2], a[3], a[4]);
            case "order" -> x.order(a[0], a[1], a[2], a[3], a[4]);
            case "fewest" -> x.fewest(a[0], a[1], a[2], a[3], a[4]);
            case "added" -> x.added(a[0], a[1], a[2], a[3], a[4]);
            case "turn" -> x.turn(a[0]);
            case "reading" -> x.reading(a[0], a[1], a[2]);
            case "back" -> x.back(a[0]);
            case "mens" -> x.mens(a[0]);
            case "kinds" -> x.kinds(a[0]);
            case "odds" -> x.odds(a[0], a[1]);
            case "sheet" -> x.sheet(a[0], a[1], a[2]);
            case "lose" -> x.lose(a[0]);
            case "put" -> x.put(a[0], a[1], a[2]);
            case "cell" -> x.cell(a[0], a[1], a[2]);
            case "copy" -> x.copy(a[0], a[1], a[2], a[3], a[4]);
            case "tell" -> x.tell(a[0]);
            case "feel" -> x.feel(a[0]);
            case "as" -> x.as(a[0], a[1]);
            case "trace" -> x.trace();
            case "fault" -> x.fault();
            case "many" -> x.many(a[0]);
            default -> throw new IllegalArgumentException(name);
        };
    }
}
