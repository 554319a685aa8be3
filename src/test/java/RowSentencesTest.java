/** Promises 1 to 5, sentence by sentence, at their edges. */
public final class RowSentencesTest {
    private static final int BAD = Sentences.BAD, NULL = Sentences.NULL, PLACE = Sentences.PLACE;
    private static final int SIZE = Sentences.SIZE, STORE = Sentences.STORE;
    private static final int LEAST = Sentences.LEAST, MOST = Sentences.MOST;

    public static void main(String[] args) {
        Sentences.runAll(RowSentencesTest.class, "p01", "p02", "p03", "p04", "p05");
    }

    private static void due(String call, long got, long want) {
        Sentences.due(call, got, want);
    }

    private static UnitHours reader() {
        return Sentences.day(Sentences.READER);
    }

    // ---- 1 a new object

    private static void p01_noDay() {
        UnitHours x = new UnitHours();
        due("count(1)", x.count(1), 0);
        due("count(2)", x.count(2), 0);
        due("count(3)", x.count(3), 0);
        due("plan(4)", x.plan(4), Sentences.STATE);
        due("kind(0)", x.kind(0), BAD);
        due("hour(0, 0)", x.hour(0, 0), BAD);
    }

    private static void p01_noRowNoTapeNoActNoImage() {
        UnitHours x = new UnitHours();
        due("count(0)", x.count(0), 0);
        due("count(4)", x.count(4), 0);
        due("count(5)", x.count(5), 0);
        due("undo()", x.undo(), Sentences.STATE);
        due("restore(0)", x.restore(0), Sentences.STATE);
        due("restore(1)", x.restore(1), Sentences.STATE);
        for (int r = 0; r < 8; r++) {
            due("drop(" + r + ")", x.drop(r), NULL);
        }
    }

    private static void p01_noFaultNoTraceNoStatus() {
        UnitHours x = new UnitHours();
        due("fault()", x.fault(), 0);
        due("status()", x.status(), 0);
        due("trace(0)", x.trace(0), Sentences.NONE);
    }

    private static void p01_objectsShareNothing() {
        UnitHours x = Twins.rich();
        UnitHours y = new UnitHours();
        due("rows of another", y.count(0), 0);
        due("units of another", y.count(1), 0);
        due("tape of another", y.count(5), 0);
        y.row(0, 2, 3);
        due("rows of the first", x.count(0), 4);
        due("size of the first", x.set(0, 2, 200), -56);
    }

    // ---- 2 row

    private static void p02_answersN() {
        UnitHours x = new UnitHours();
        for (int n = 0; n <= 40; n++) {
            due("row(0, 2, " + n + ")", x.row(0, 2, n), n);
            due("last place", n == 0 ? 0 : x.set(0, n - 1, 6), n == 0 ? 0 : 6);
            due("one beyond", x.set(0, n, 6), PLACE);
        }
    }

    private static void p02_rowsFrom0To7() {
        UnitHours x = new UnitHours();
        for (int r = 0; r < 8; r++) {
            due("row(" + r + ", 1, 3)", x.row(r, 1, 3), 3);
            due("count", x.count(0), r + 1);
        }
        due("row -1", x.row(-1, 1, 3), BAD);
        due("row 8", x.row(8, 1, 3), BAD);
        for (int w : Sentences.wild()) {
            due("row " + w, x.row(w, 1, 3), BAD);
        }
    }

    private static void p02_lanesFrom0To2() {
        UnitHours x = new UnitHours();
        int[] cut = {-1, -1, 65535};
        for (int lane = 0; lane < 3; lane++) {
            due("lane " + lane, x.row(4, lane, 1), 1);
            due("its bits", x.set(4, 0, 65535), cut[lane]);
        }
        due("lane -1", x.row(4, -1, 1), BAD);
        due("lane 3", x.row(4, 3, 1), BAD);
        for (int w : Sentences.wild()) {
            due("lane " + w, x.row(4, w, 1), BAD);
        }
        due("it stays", x.drop(4), 1);
    }

    private static void p02_nAbove40IsBad() {
        UnitHours x = new UnitHours();
        due("40", x.row(0, 0, 40), 40);
        due("41", x.row(0, 0, 41), BAD);
        for (int w : Sentences.wild()) {
            due("n " + w, x.row(0, 0, w), w > 0 ? BAD : SIZE);
        }
        due("it stays", x.drop(0), 40);
        due("none is made", x.row(1, 0, MOST), BAD);
        due("none is made", x.count(0), 0);
    }

    private static void p02_fewerThanNoneIsSize() {
        UnitHours x = reader();
        x.row(0, 2, 2);
        x.set(0, 1, 77);
        due("-1", x.row(0, 0, -1), SIZE);
        due("status", x.status(), 4);
        due("least", x.row(0, 0, LEAST), SIZE);
        due("of a missing one", x.row(1, 0, -1), SIZE);
        due("it stays missing", x.drop(1), NULL);
        due("the item stays", x.bound(0, 1), 77);
        due("the lane stays", x.set(0, 0, 70000), 70000);
        due("the size stays", x.drop(0), 2);
    }

    private static void p02_badAheadOfSize() {
        UnitHours x = new UnitHours();
        due("row", x.row(8, 0, -1), BAD);
        due("row", x.row(-1, 0, -1), BAD);
        due("lane", x.row(0, 3, -1), BAD);
        due("lane", x.row(0, -1, LEAST), BAD);
        due("status", x.status(), 0);
    }

    private static void p02_inPlaceOfWhatIsThere() {
        UnitHours x = reader();
        x.row(0, 2, 40);
        for (int k = 0; k < 40; k++) {
            x.set(0, k, 1000 + k);
        }
        due("shorter", x.row(0, 2, 3), 3);
        due("beyond", x.set(0, 3, 1), PLACE);
        due("longer again", x.row(0, 2, 40), 40);
        Sentences.dueAll("all 0", Sentences.items(x, 0, 40), new long[40]);
        due("another lane", x.row(0, 0, 40), 40);
        due("its bits", x.set(0, 0, 128), -128);
        due("one row", x.count(0), 1);
    }

    private static void p02_behindDropAnew() {
        UnitHours x = reader();
        x.row(3, 2, 4);
        x.set(3, 2, 9);
        x.drop(3);
        due("anew", x.row(3, 2, 4), 4);
        Sentences.dueAll("all 0", Sentences.items(x, 3, 4), 0, 0, 0, 0);
    }

    // ---- 3 set

    private static void p03_lowestBitsOfBytes() {
        UnitHours x = reader();
        x.row(0, 0, 1);
        int[][] due = {{0, 0}, {1, 1}, {127, 127}, {128, -128}, {129, -127}, {255, -1}, {256, 0}, {257, 1}, {383, 127},
            {384, -128}, {-1, -1}, {-128, -128}, {-129, 127}, {-256, 0}, {32767, -1}, {32768, 0}, {MOST, -1},
            {LEAST, 0}, {LEAST + 1, 1}, {MOST - 127, -128}};
        for (int[] d : due) {
            due("set " + d[0], x.set(0, 0, d[0]), d[1]);
            due("it is", x.bound(0, 0), d[1]);
        }
    }

    private static void p03_lowestBitsOfShorts() {
        UnitHours x = reader();
        x.row(0, 1, 1);
        int[][] due = {{0, 0}, {127, 127}, {128, 128}, {255, 255}, {32767, 32767}, {32768, -32768}, {65535, -1},
            {65536, 0}, {65537, 1}, {98303, 32767}, {-1, -1}, {-32768, -32768}, {-32769, 32767}, {-65536, 0},
            {MOST, -1}, {LEAST, 0}, {LEAST + 1, 1}, {MOST - 32767, -32768}};
        for (int[] d : due) {
            due("set " + d[0], x.set(0, 0, d[0]), d[1]);
            due("it is", x.bound(0, 0), d[1]);
        }
    }

    private static void p03_lowestBitsOfInts() {
        UnitHours x = reader();
        x.row(0, 2, 1);
        for (int v : new int[] {0, 1, -1, 128, 255, 256, 32768, 65535, 65536, 1 << 30, MOST, LEAST, MOST - 1, LEAST + 1}) {
            due("set " + v, x.set(0, 0, v), v);
            due("it is", x.bound(0, 0), v);
        }
    }

    private static void p03_oneItemAlone() {
        UnitHours x = reader();
        x.row(0, 2, 3);
        x.row(1, 2, 3);
        x.set(0, 1, 5);
        Sentences.dueAll("beside it", Sentences.items(x, 0, 3), 0, 5, 0);
        Sentences.dueAll("of another row", Sentences.items(x, 1, 3), 0, 0, 0);
        x.set(0, 0, 7);
        x.set(0, 2, 8);
        Sentences.dueAll("at the ends", Sentences.items(x, 0, 3), 7, 5, 8);
    }

    private static void p03_noSuchRow() {
        UnitHours x = new UnitHours();
        due("-1", x.set(-1, 0, 1), BAD);
        due("8", x.set(8, 0, 1), BAD);
        for (int w : Sentences.wild()) {
            due("row " + w, x.set(w, 0, 1), BAD);
        }
    }

    private static void p03_nullAheadOfPlace() {
        UnitHours x = new UnitHours();
        for (int r = 0; r < 8; r++) {
            due("missing", x.set(r, 0, 1), NULL);
        }
        due("missing, no such place", x.set(0, -1, 1), NULL);
        due("missing, no such place", x.set(0, MOST, 1), NULL);
        due("still missing", x.count(0), 0);
    }

    private static void p03_places() {
        UnitHours x = reader();
        x.row(0, 2, 4);
        due("first", x.set(0, 0, 1), 1);
        due("last", x.set(0, 3, 1), 1);
        due("below", x.set(0, -1, 1), PLACE);
        due("beyond", x.set(0, 4, 1), PLACE);
        due("beyond, though a longer row could have it", x.set(0, 39, 1), PLACE);
        for (int w : Sentences.wild()) {
            due("place " + w, x.set(0, w, 1), PLACE);
        }
        Sentences.dueAll("as it was", Sentences.items(x, 0, 4), 1, 0, 0, 1);
    }

    // ---- 4 copy

    private static UnitHours counting() {
        UnitHours x = reader();
        x.row(0, 2, 6);
        x.row(1, 2, 4);
        for (int k = 0; k < 6; k++) {
            x.set(0, k, k + 1);
        }
        return x;
    }

    private static void p04_toAnotherRow() {
        UnitHours x = counting();
        due("copy", x.copy(0, 2, 1, 0, 4), 4);
        Sentences.dueAll("to", Sentences.items(x, 1, 4), 3, 4, 5, 6);
        Sentences.dueAll("from", Sentences.items(x, 0, 6), 1, 2, 3, 4, 5, 6);
        due("back", x.copy(1, 3, 0, 5, 1), 1);
        due("back", x.copy(1, 0, 0, 0, 2), 2);
        Sentences.dueAll("to", Sentences.items(x, 0, 6), 3, 4, 3, 4, 5, 6);
    }

    private static void p04_withinOneRowForth() {
        for (int n = 0; n <= 5; n++) {
            UnitHours x = counting();
            due("copy " + n, x.copy(0, 0, 0, 1, n), n);
            for (int k = 0; k < 6; k++) {
                due("item " + k + " of " + n, x.bound(0, k), k >= 1 && k <= n ? k : k + 1);
            }
        }
    }

    private static void p04_withinOneRowBack() {
        for (int n = 0; n <= 5; n++) {
            UnitHours x = counting();
            due("copy " + n, x.copy(0, 1, 0, 0, n), n);
            for (int k = 0; k < 6; k++) {
                due("item " + k + " of " + n, x.bound(0, k), k < n ? k + 2 : k + 1);
            }
        }
    }

    private static void p04_ontoItself() {
        UnitHours x = counting();
        due("copy", x.copy(0, 0, 0, 0, 6), 6);
        due("copy", x.copy(0, 3, 0, 3, 3), 3);
        Sentences.dueAll("as it was", Sentences.items(x, 0, 6), 1, 2, 3, 4, 5, 6);
    }

    private static void p04_everyLane() {
        for (int lane = 0; lane < 3; lane++) {
            UnitHours x = reader();
            x.row(0, lane, 2);
            x.row(1, lane, 2);
            int v = x.set(0, 1, 70200);
            due("copy in lane " + lane, x.copy(0, 1, 1, 0, 1), 1);
            due("it is", x.bound(1, 0), v);
            due("bits of the lane still", x.set(1, 0, 65536 + 255), new int[] {-1, 255, 65791}[lane]);
        }
    }

    private static void p04_noneAtTheEnds() {
        UnitHours x = counting();
        x.row(2, 2, 0);
        due("n 0", x.copy(0, 0, 1, 0, 0), 0);
        due("at both ends", x.copy(0, 6, 1, 4, 0), 0);
        due("of empty rows", x.copy(2, 0, 2, 0, 0), 0);
        due("to an empty row", x.copy(0, 6, 2, 0, 0), 0);
        due("one to an empty row", x.copy(0, 0, 2, 0, 1), PLACE);
        due("one of an empty row", x.copy(2, 0, 0, 0, 1), PLACE);
        due("none beyond an end", x.copy(0, 7, 1, 0, 0), PLACE);
        due("none beyond an end", x.copy(0, 0, 1, 5, 0), PLACE);
        due("none beyond an end", x.copy(2, 1, 0, 0, 0), PLACE);
    }

    private static void p04_all40() {
        UnitHours x = reader();
        x.row(0, 2, 40);
        x.row(1, 2, 40);
        for (int k = 0; k < 40; k++) {
            x.set(0, k, 3 * k);
        }
        due("copy", x.copy(0, 0, 1, 0, 40), 40);
        for (int k = 0; k < 40; k++) {
            due("item " + k, x.bound(1, k), 3 * k);
        }
        due("one more", x.copy(0, 0, 1, 0, 41), PLACE);
        due("one further", x.copy(0, 1, 1, 0, 40), PLACE);
        due("one further", x.copy(0, 0, 1, 1, 40), PLACE);
    }

    private static void p04_badRows() {
        UnitHours x = counting();
        for (int bad : new int[] {-1, 8, LEAST, MOST}) {
            due("a " + bad, x.copy(bad, 0, 0, 0, 1), BAD);
            due("b " + bad, x.copy(0, 0, bad, 0, 1), BAD);
            due("a " + bad + ", b missing", x.copy(bad, 0, 5, 0, 1), BAD);
            due("a missing, b " + bad, x.copy(5, 0, bad, 0, 1), BAD);
            due("place too", x.copy(0, -1, bad, 0, 1), BAD);
        }
    }

    private static void p04_nullAheadOfStoreAndPlace() {
        UnitHours x = counting();
        x.row(2, 1, 4);
        due("a missing", x.copy(5, 0, 0, 0, 1), NULL);
        due("b missing", x.copy(0, 0, 5, 0, 1), NULL);
        due("both", x.copy(5, 0, 6, 0, 1), NULL);
        due("one that is missing, onto itself", x.copy(5, 0, 5, 0, 0), NULL);
        due("place", x.copy(0, -1, 5, 0, 1), NULL);
        due("place", x.copy(5, 0, 0, 7, 1), NULL);
        due("n", x.copy(5, 0, 0, 0, LEAST), NULL);
        due("of another lane", x.copy(2, 0, 5, 0, 1), NULL);
    }

    private static void p04_storeAheadOfPlace() {
        UnitHours x = new UnitHours();
        for (int lane = 0; lane < 3; lane++) {
            x.row(lane, lane, 4);
        }
        for (int a = 0; a < 3; a++) {
            for (int b = 0; b < 3; b++) {
                due("lanes " + a + " " + b, x.copy(a, 0, b, 0, 4), a == b ? 4 : STORE);
                due("none of lanes " + a + " " + b, x.copy(a, 0, b, 0, 0), a == b ? 0 : STORE);
                due("no place of lanes " + a + " " + b, x.copy(a, 0, b, 9, 4), a == b ? PLACE : STORE);
                due("below none of lanes " + a + " " + b, x.copy(a, 0, b, 0, -1), a == b ? PLACE : STORE);
            }
        }
    }

    private static void p04_places() {
        UnitHours x = counting();
        int[][] beyond = {{-1, 0, 1}, {0, -1, 1}, {0, 0, -1}, {-1, 0, 0}, {0, -1, 0}, {0, 0, 5}, {6, 0, 1}, {0, 4, 1},
            {3, 0, 4}, {0, 1, 4}, {-1, -1, -1}, {LEAST, 0, 1}, {0, LEAST, 1}, {0, 0, LEAST}, {MOST, 0, 1},
            {0, MOST, 1}, {0, 0, MOST}, {1, 1, MOST}, {MOST, MOST, MOST}, {LEAST, LEAST, LEAST}, {MOST, 0, LEAST},
            {2, 0, MOST - 1}, {LEAST, 0, MOST}, {6, 0, LEAST}, {7, 0, -1}};
        for (int[] b : beyond) {
            due("copy(0, " + b[0] + ", 1, " + b[1] + ", " + b[2] + ")", x.copy(0, b[0], 1, b[1], b[2]), PLACE);
            due("status", x.status(), 2);
        }
        Sentences.dueAll("to", Sentences.items(x, 1, 4), 0, 0, 0, 0);
        due("just inside", x.copy(0, 2, 1, 0, 4), 4);
        due("just inside", x.copy(0, 5, 1, 3, 1), 1);
    }

    // ---- 5 drop

    private static void p05_howManyItemsItHad() {
        UnitHours x = new UnitHours();
        for (int n = 0; n <= 40; n++) {
            x.row(n % 8, n % 3, n);
            due("drop of " + n, x.drop(n % 8), n);
        }
        due("none left", x.count(0), 0);
    }

    private static void p05_missingFromNowOn() {
        UnitHours x = reader();
        x.row(0, 2, 3);
        x.row(1, 2, 3);
        x.drop(0);
        due("set", x.set(0, 0, 1), NULL);
        due("copy", x.copy(0, 0, 1, 0, 1), NULL);
        due("bound", x.bound(0, 0), NULL);
        due("alone", x.alone(0, 0, 0, 0), NULL);
        due("fits", x.fits(0, 0, 1), NULL);
        due("drop", x.drop(0), NULL);
        due("the other is there", x.set(1, 2, 4), 4);
        due("count", x.count(0), 1);
    }

    private static void p05_badRows() {
        UnitHours x = new UnitHours();
        due("-1", x.drop(-1), BAD);
        due("8", x.drop(8), BAD);
        for (int w : Sentences.wild()) {
            due("row " + w, x.drop(w), BAD);
        }
        for (int r = 0; r < 8; r++) {
            due("missing", x.drop(r), NULL);
        }
    }
}
