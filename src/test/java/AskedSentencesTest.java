/** Promises 32 to 37, sentence by sentence, at their edges. */
public final class AskedSentencesTest {
    private static final int NONE = Sentences.NONE, BAD = Sentences.BAD, KIND = Sentences.KIND;
    private static final int LEAST = Sentences.LEAST, MOST = Sentences.MOST;
    private static final String TWO = Sentences.TWO, FOUR = Sentences.FOUR;

    public static void main(String[] args) {
        Sentences.runAll(AskedSentencesTest.class, "p32", "p33", "p34", "p35", "p36", "p37");
    }

    private static void due(String call, long got, long want) {
        Sentences.due(call, got, want);
    }

    // ---- 32 kind

    private static void p32_asTold() {
        UnitHours x = Sentences.day(FOUR);
        for (int u = 0; u < 4; u++) {
            due("kind", x.kind(u), u + 1);
        }
        due("a river", Sentences.day("v0;h0;r0,0,1,0,1,1;").kind(0), 5);
    }

    private static void p32_edges() {
        UnitHours x = Sentences.day(FOUR);
        due("4", x.kind(4), BAD);
        due("-1", x.kind(-1), BAD);
        due("of fewer units", Sentences.day(TWO).kind(2), BAD);
        for (int w : Sentences.wild()) {
            due("unit " + w, x.kind(w), BAD);
        }
        due("no day", Sentences.none().kind(0), BAD);
    }

    // ---- 33 as

    private static void p33_itsNumber() {
        UnitHours x = Sentences.day(FOUR);
        for (int u = 0; u < 4; u++) {
            due("a unit", x.as(u, 0), u);
            due("its kind", x.as(u, u + 1), u);
            due("status", x.status(), 0);
        }
    }

    private static void p33_noSuchOne() {
        UnitHours x = Sentences.day(FOUR);
        int[][] not = {{0, 2}, {0, 3}, {0, 4}, {0, 5}, {1, 3}, {1, 4}, {1, 5}, {2, 2}, {2, 4}, {2, 5}, {3, 1}, {3, 2},
            {3, 3}, {3, 5}};
        for (int[] n : not) {
            due("unit " + n[0] + " as " + n[1], x.as(n[0], n[1]), KIND);
            due("status", x.status(), 3);
        }
        due("quick is plain", x.as(1, 1), 1);
        due("slow is plain", x.as(2, 1), 2);
        x.become(3, 5);
        due("a river is water", x.as(3, 4), 3);
        due("a river", x.as(3, 5), 3);
        due("a river is not plain", x.as(3, 1), KIND);
    }

    private static void p33_edges() {
        UnitHours x = Sentences.day(FOUR);
        x.as(0, 5);
        due("kind 6", x.as(0, 6), BAD);
        due("kind -1", x.as(0, -1), BAD);
        due("unit 4", x.as(4, 0), BAD);
        due("unit -1", x.as(-1, 0), BAD);
        for (int w : Sentences.wild()) {
            due("kind " + w, x.as(0, w), BAD);
            due("unit " + w, x.as(w, 0), BAD);
        }
        due("no day", Sentences.none().as(0, 0), BAD);
        due("status", x.status(), 3);
    }

    // ---- 34 ask

    private static void p34_edges() {
        UnitHours x = Sentences.day(FOUR);
        due("0", x.ask(0, 0), 14);
        due("1", x.ask(0, 1), 0);
        due("2", x.ask(0, 2), BAD);
        due("-1", x.ask(0, -1), BAD);
        due("unit 4", x.ask(4, 0), BAD);
        due("unit -1", x.ask(-1, 0), BAD);
        for (int w : Sentences.wild()) {
            due("what " + w, x.ask(0, w), BAD);
            due("unit " + w, x.ask(w, 0), BAD);
        }
        due("no day", Sentences.none().ask(0, 0), BAD);
        due("the trace is that of the last that was not refused", x.trace(0), 21);
    }

    private static void p34_theTraceIsEmptyAheadOfIt() {
        UnitHours x = Sentences.day(FOUR);
        for (int k = 0; k < 20; k++) {
            x.ask(1, 0);
        }
        due("the first", x.trace(0), 12);
        due("the sixth", x.trace(5), 20);
        due("no more", x.trace(6), NONE);
        x.ask(3, 0);
        due("the first", x.trace(0), 13);
        due("no more", x.trace(2), NONE);
    }

    private static void p34_leavesStatusAndDay() {
        UnitHours x = Sentences.day(FOUR);
        x.as(0, 5);
        x.ask(0, 0);
        due("status", x.status(), 3);
        due("acts", x.count(4), 0);
    }

    // ---- 35 trace

    private static void p35_edges() {
        UnitHours x = Sentences.day(FOUR);
        due("empty", x.trace(0), NONE);
        x.ask(1, 0);
        long[] want = {12, 11, 10, 24, 21, 20};
        for (int i = 0; i < 6; i++) {
            due("trace " + i, x.trace(i), want[i]);
        }
        for (int i : new int[] {-1, 6, 7, 15, 16, 17}) {
            due("trace " + i, x.trace(i), NONE);
        }
        for (int w : Sentences.wild()) {
            due("trace " + w, x.trace(w), NONE);
        }
        due("it stays", x.trace(0), 12);
        due("no day", Sentences.none().trace(0), NONE);
    }

    // ---- 36 count

    private static void p36_none() {
        for (int w = 0; w < 6; w++) {
            due("count " + w, Sentences.none().count(w), 0);
        }
    }

    private static void p36_all() {
        UnitHours x = Sentences.day("v0;h60;h60;h60;h60;h60;h60;" + "w0,0,1,0,1,1;".repeat(4));
        for (int r = 0; r < 8; r++) {
            x.row(r, 0, 0);
        }
        for (int k = 0; k < 20; k++) {
            x.demand(0, 60);
        }
        for (int k = 0; k < 125; k++) {
            x.feed(k);
        }
        Sentences.dueAll("count", new long[] {x.count(0), x.count(1), x.count(2), x.count(3), x.count(4), x.count(5)},
                8, 4, 6, 360, 16, 120);
    }

    private static void p36_edges() {
        UnitHours x = Sentences.day(TWO);
        due("6", x.count(6), BAD);
        due("-1", x.count(-1), BAD);
        for (int w : Sentences.wild()) {
            due("what " + w, x.count(w), BAD);
            due("no day: what " + w, Sentences.none().count(w), BAD);
        }
    }

    private static void p36_asThingsComeAndGo() {
        UnitHours x = Sentences.day(TWO);
        x.row(0, 0, 1);
        x.row(0, 1, 2);
        due("one row", x.count(0), 1);
        x.drop(0);
        due("no row", x.count(0), 0);
        x.demand(0, 0);
        due("demands", x.count(3), 8);
        x.undo();
        due("demands", x.count(3), 13);
        due("acts", x.count(4), 0);
        x.feed(1);
        due("tape", x.count(5), 1);
        x.day();
        due("tape", x.count(5), 0);
    }

    // ---- 37 status

    /** An object whose status is 3, with rows 0 (ints) and 1 (bytes). */
    private static UnitHours found() {
        UnitHours x = Sentences.day(TWO);
        x.row(0, 2, 3);
        x.row(1, 0, 1);
        x.as(0, 5);
        due("at first", x.status(), 3);
        return x;
    }

    private static void p37_noneAtFirst() {
        due("status", Sentences.none().status(), 0);
        due("status", Sentences.day(TWO).status(), 0);
    }

    private static void p37_itStaysUntilTheNext() {
        UnitHours x = found();
        due("once more", x.status(), 3);
        due("once more", x.status(), 3);
    }

    private static void p37_row() {
        UnitHours x = found();
        x.row(2, 0, -1);
        due("SIZE", x.status(), 4);
        x.row(8, 0, 1);
        due("BAD leaves it", x.status(), 4);
        x.row(2, 0, 41);
        due("BAD leaves it", x.status(), 4);
        x.row(2, 0, 0);
        due("none", x.status(), 0);
    }

    private static void p37_set() {
        UnitHours x = found();
        x.set(8, 0, 0);
        due("BAD leaves it", x.status(), 3);
        x.set(5, 0, 0);
        due("NULL", x.status(), 1);
        x.set(0, 3, 0);
        due("PLACE", x.status(), 2);
        x.set(-1, 3, 0);
        due("BAD leaves it", x.status(), 2);
        x.set(0, 2, 0);
        due("none", x.status(), 0);
    }

    private static void p37_copy() {
        UnitHours x = found();
        x.copy(0, 0, 8, 0, 1);
        due("BAD leaves it", x.status(), 3);
        x.copy(0, 0, 5, 0, 1);
        due("NULL", x.status(), 1);
        x.copy(0, 0, 1, 0, 1);
        due("STORE", x.status(), 5);
        x.copy(0, 0, 0, 3, 1);
        due("PLACE", x.status(), 2);
        x.copy(0, 0, 0, 2, 1);
        due("none", x.status(), 0);
    }

    private static void p37_drop() {
        UnitHours x = found();
        x.drop(8);
        due("BAD leaves it", x.status(), 3);
        x.drop(5);
        due("NULL", x.status(), 1);
        x.drop(1);
        due("none", x.status(), 0);
    }

    private static void p37_alone() {
        UnitHours x = found();
        x.alone(0, 8, 0, 0);
        x.alone(2, 5, 0, 0);
        x.alone(0, 5, 0, 2);
        due("BAD leaves it", x.status(), 3);
        x.alone(0, 5, 0, 0);
        due("NULL", x.status(), 1);
        x.alone(0, 0, 2, 0);
        due("PLACE", x.status(), 2);
        x.alone(0, 0, 1, 0);
        due("none", x.status(), 0);
    }

    private static void p37_bound() {
        UnitHours x = found();
        x.bound(8, 0);
        due("BAD leaves it", x.status(), 3);
        x.bound(5, 0);
        due("NULL", x.status(), 1);
        x.bound(0, 2);
        due("PLACE", x.status(), 2);
        x.bound(0, 1);
        due("none", x.status(), 0);
        UnitHours y = Sentences.none();
        y.drop(0);
        y.bound(0, 0);
        due("STATE leaves it", y.status(), 1);
    }

    private static void p37_fits() {
        UnitHours x = found();
        x.fits(0, 8, 1);
        x.fits(0, 5, 3);
        x.fits(2, 5, 1);
        due("BAD leaves it", x.status(), 3);
        x.fits(0, 5, 1);
        due("NULL", x.status(), 1);
        x.fits(0, 1, 2);
        due("PLACE", x.status(), 2);
        x.fits(0, 0, 2);
        due("none", x.status(), 0);
    }

    private static void p37_as() {
        UnitHours x = found();
        x.as(0, 6);
        x.as(2, 0);
        due("BAD leaves it", x.status(), 3);
        x.as(0, 1);
        due("none", x.status(), 0);
        x.as(0, 4);
        due("KIND", x.status(), 3);
    }

    private static void p37_allOthersLeaveIt() {
        UnitHours x = found();
        for (int k = 0; k < 33; k++) {
            other(x, k);
            due("behind call " + k, x.status(), 3);
        }
    }

    private static long other(UnitHours x, int k) {
        switch (k) {
            case 0: return x.feed('v');
            case 1: return x.feed(256);
            case 2: return x.day();
            case 3: return x.fault();
            case 4: return x.run(0, 1);
            case 5: return x.run(0, 1);
            case 6: return x.layBest();
            case 7: return x.demand(0, 4);
            case 8: return x.demand(9, 4);
            case 9: return x.reserve(0);
            case 10: return x.reserve(21);
            case 11: return x.price(0, 2);
            case 12: return x.become(0, 2);
            case 13: return x.become(0, 2);
            case 14: return x.unit(0, 0);
            case 15: return x.hour(0, 0);
            case 16: return x.gives(0, 0);
            case 17: return x.plan(0);
            case 18: return x.best(-1);
            case 19: return x.moved(1, 0);
            case 20: return x.gap(1);
            case 21: return x.more(0);
            case 22: return x.wanted();
            case 23: return x.who(0, 0, 1);
            case 24: return x.who(3, 0, 1);
            case 25: return x.drawn(1, 1, 0);
            case 26: return x.image(0);
            case 27: return x.undo();
            case 28: return x.restore(0);
            case 29: return x.kind(0);
            case 30: return x.ask(0, 0);
            case 31: return x.trace(LEAST);
            default: return x.count(MOST);
        }
    }

    private static void p37_aNewDayLeavesIt() {
        UnitHours x = found();
        Check.feedText(x, FOUR);
        due("day", x.day(), 4);
        due("status", x.status(), 3);
    }
}
