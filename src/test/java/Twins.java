import java.util.ArrayList;
import java.util.List;

/**
 * Two objects with the same calls behind them: one has a call more, and then all that can be seen of both is the
 * same, or it is not. What is seen ends with calls that change things (acts are undone, images restored, rows
 * read and dropped), so that what lies behind is seen too. rich() and seen() have some 440 calls together: of the
 * 512 that an object has, a test may use 60 more.
 */
final class Twins {
    private Twins() {
    }

    /** A rich state: rows of all lanes, a plan, six acts, two images, a trace, some tape, a fault and a finding. */
    static UnitHours rich() {
        UnitHours x = new UnitHours();
        Check.feedText(x, "v21");
        x.day();
        Check.feedText(x, Sentences.FOUR);
        x.day();
        x.row(0, 0, 3);
        x.row(1, 1, 2);
        x.row(2, 2, 7);
        x.row(3, 2, 0);
        x.set(0, 1, 5);
        x.set(1, 1, 300);
        x.set(2, 6, 70000);
        x.set(2, 0, 9);
        x.run(1, 6);
        x.image(0);
        x.demand(2, 31);
        x.reserve(1);
        x.price(3, 2);
        x.image(1);
        x.become(0, 5);
        x.layBest();
        x.ask(1, 0);
        x.feed('v');
        x.feed('7');
        x.as(0, 1);
        return x;
    }

    /** The same without a day. */
    static UnitHours bare() {
        UnitHours x = new UnitHours();
        Check.feedText(x, "v21");
        x.day();
        x.row(0, 0, 3);
        x.row(2, 2, 7);
        x.set(2, 6, 70000);
        x.feed('v');
        x.feed('7');
        x.drop(5);
        return x;
    }

    /** All that can be seen but status(), which a finding may change. */
    static List<Long> seen(UnitHours x) {
        List<Long> seen = new ArrayList<>();
        looks(x, seen);
        for (int k = 0; k < 7; k++) {
            seen.add((long) x.trace(k));
        }
        seen.add((long) x.fault());
        for (int k = 0; k < 7; k++) {
            seen.add((long) x.undo());
            plainLooks(x, seen);
        }
        for (int k = 0; k < 2; k++) {
            seen.add((long) x.restore(k));
            plainLooks(x, seen);
            seen.add((long) x.count(4));
            seen.add((long) x.best(-1));
        }
        Check.feedText(x, ";h1;p0,0,1,0,1,1;");
        seen.add((long) x.day());
        seen.add((long) x.plan(4));
        rows(x, seen);
        return seen;
    }

    private static void looks(UnitHours x, List<Long> seen) {
        plainLooks(x, seen);
        for (int u = 0; u < 4; u++) {
            for (int w = 0; w < 6; w++) {
                seen.add((long) x.unit(u, w));
            }
        }
        for (int w = 0; w < 6; w++) {
            seen.add((long) x.count(w));
        }
        for (int w = -1; w < 6; w++) {
            seen.add((long) x.best(w));
        }
    }

    private static void plainLooks(UnitHours x, List<Long> seen) {
        for (int w = 0; w < 6; w++) {
            seen.add((long) x.hour(w, 0));
        }
        for (int u = 0; u < 4; u++) {
            seen.add((long) x.unit(u, 6));
            seen.add((long) x.unit(u, 2));
            seen.add((long) x.kind(u));
        }
        seen.add((long) x.plan(4));
    }

    private static void rows(UnitHours x, List<Long> seen) {
        for (int r = 0; r < 8; r++) {
            for (int k = 0; k < 8 && r < 4; k++) {
                seen.add(x.bound(r, k));
            }
            if (r < 4) {
                seen.add((long) x.set(r, 0, 1234567));
            }
            seen.add((long) x.drop(r));
        }
    }

    /**
     * What each call with a unit or an hour answers on a day of TWO, one beyond the edges too: some 150 calls. Those
     * that could hide what lies behind them, because they try another day first, come last.
     */
    static List<Long> answers(UnitHours x) {
        List<Long> seen = new ArrayList<>();
        x.row(6, 2, 3);
        x.set(6, 0, 4);
        x.set(6, 1, 5);
        foretold(x, seen);
        for (int u = 0; u < 3; u++) {
            seen.add((long) x.run(u, 4));
            seen.add((long) x.run(u, 2));
            seen.add((long) x.unit(u, 7));
            seen.add((long) x.unit(u, 8));
            seen.add((long) x.run(u, 3));
            seen.add((long) x.unit(u, 8));
            seen.add((long) x.ask(u, 0));
        }
        for (int w = 0; w < 5; w++) {
            seen.add((long) x.plan(w));
            for (int h = 0; h < 3; h++) {
                seen.add((long) x.hour(h, w));
                seen.add((long) x.gives(w, h));
            }
        }
        seen.add((long) x.run(0, 0));
        seen.add((long) x.run(1, 0));
        seen.add((long) x.layBest());
        looks(x, seen);
        tried(x, seen);
        return seen;
    }

    private static void foretold(UnitHours x, List<Long> seen) {
        seen.add((long) x.wanted());
        for (int w = -2; w < 3; w++) {
            seen.add(x.alone(0, 6, 0, w));
            seen.add(x.alone(1, 6, 1, w));
            seen.add(x.alone(1, 6, 2, w));
            seen.add(x.alone(2, 6, 0, w));
            seen.add((long) x.moved(7, w));
        }
        for (int i = 0; i < 3; i++) {
            seen.add(x.bound(6, i));
            seen.add((long) x.gap(i));
        }
    }

    private static void tried(UnitHours x, List<Long> seen) {
        x.set(6, 0, 3);
        x.set(6, 1, 3);
        for (int n = 3; n > 0; n--) {
            seen.add((long) x.fits(2, 6, n));
            seen.add((long) x.fits(1, 6, n));
        }
        for (int h = 2; h >= 0; h--) {
            seen.add((long) x.more(h));
            seen.add((long) x.who(0, h, 38));
            seen.add((long) x.who(2, h, 38));
            seen.add((long) x.who(3, h, 38));
        }
        seen.add((long) x.drawn(8, 7, 0));
        seen.add((long) x.drawn(8, 7, 1));
    }
}
