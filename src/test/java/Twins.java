import java.util.ArrayList;
import java.util.List;

/**
 * Two objects with the same calls behind them: one has a call more, and then all that can be seen of both is the
 * same, or it is not. What is seen ends with calls that change things (acts are undone, images restored, rows
 * read and dropped), so that what lies behind is seen too. rich() and seen() have some 440 calls together: of the
 * 512 that an object has, a test may use 60 more.
 */
final class Twins {
    private Twins() {
    }

    /** A rich state: rows of all lanes, a plan, six acts, two images, a trace, some tape, a fault and a finding. */
    static UnitHours rich() {
        UnitHours x = new UnitHours();
        Check.feedText(x, "v21");
        x.day();
        Check.feedText(x, Sentences.FOUR);
        x.day();
        x.row(0, 0, 3);
        x.row(1, 1, 2);
        x.row(2, 2, 7);
        x.row(3, 2, 0);
        x.set(0, 1, 5);
        x.set(1, 1, 300);
        x.set(2, 6, 70000);
        x.set(2, 0, 9);
        x.run(1, 6);
        x.image(0);
        x.demand(2, 31);
        x.reserve(1);
        x.price(3, 2);
        x.image(1);
        x.become(0, 5);
        x.layBest();
        x.ask(1, 0);
        x.feed('v');
        x.feed('7');
        x.as(0, 1);
        return x;
    }

    /** The same without a day. */
    static UnitHours bare() {
        UnitHours x = new UnitHours();
        Check.feedText(x, "v21");
        x.day();
        x.row(0, 0, 3);
        x.row(2, 2, 7);
        x.set(2, 6, 70000);
        x.feed('v');
        x.feed('7');
        x.drop(5);
        return x;
    }

    /** All that can be seen but status(), which a finding may change. */
    static List<Long> seen(UnitHours x) {
        List<Long> seen = new ArrayList<>();
        looks(x, seen);
        for (int k = 0; k < 7; k++) {
            seen.add((long) x.trace(k));
        }
        seen.add((long) x.fault());
        for (int k = 0; k < 7; k++) {
            seen.add((long) x.undo());
            plainLooks(x, seen);
        }
        for (int k = 0; k < 2; k++) {
            seen.add((long) x.restore(k));
            plainLooks(x, seen);
            seen.add((long) x.count(4));
            seen.add((long) x.best(-1));
        }
        Check.feedText(x, ";h1;p0,0,1,0,1,1;");
        seen.add((long) x.day());
        seen.add((long) x.plan(4));
        rows(x, seen);
        return seen;
    }

    private static void looks(UnitHours x, List<Long> seen) {
        plainLooks(x, seen);
        for (int u = 0; u < 4; u++) {
            for (int w = 0; w < 6; w++) {
                seen.add((long) x.unit(u, w));
            }
        }
        for (int w = 0; w < 6; w++) {
            seen.add((long) x.count(w));
        }
        for (int w = -1; w < 6; w++) {
            seen.add((long) x.best(w));
        }
    }

    private static void plainLooks(UnitHours x, List<Long> seen) {
        for (int w = 0; w < 6; w++) {
            seen.add((long) x.hour(w, 0));
        }
        for (int u = 0; u < 4; u++) {
            seen.add((long) x.unit(u, 6));
            seen.add((long) x.unit(u, 2));
            seen.add((long) x.kind(u));
        }
        seen.add((long) x.plan(4));
    }

    private static void rows(UnitHours x, List<Long> seen) {
        for (int r = 0; r < 8; r++) {
            for (int k = 0; k < 8 && r < 4; k++) {
                seen.add(x.bound(r, k));
            }
            if (r < 4) {
                seen.add((long) x.set(r, 0, 1234567));
            }
            seen.add((long) x.drop(r));
        }
    }
}
