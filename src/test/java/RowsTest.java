/** Promises 1 to 5, and what status() says of rows (37). */
public final class RowsTest {
    private static final int NULL = -1000011, PLACE = -1000012, SIZE = -1000014, STORE = -1000015;
    /** One hour of demand 1 and a unit that gives nothing: bound(row, i) is item i then. */
    private static final String READER = "v0;h1;p0,0,1,0,1,1;";
    private static final Check CHECK = new Check("RowsTest");

    public static void main(String[] args) {
        aNewObject();
        row();
        set();
        copy();
        copyRefused();
        drop();
        status();
        CHECK.finish();
    }

    private static void due(String call, long got, long want) {
        CHECK.due(call, got, want);
    }

    private static void aNewObject() {
        UnitHours x = new UnitHours();
        for (int w = 0; w < 6; w++) {
            due("1: count " + w, x.count(w), 0);
        }
        due("1: status", x.status(), 0);
        due("1: fault", x.fault(), 0);
        due("1: trace", x.trace(0), UnitHours.NONE);
        due("1: plan", x.plan(0), UnitHours.STATE);
        due("1: kind", x.kind(0), UnitHours.BAD);
        due("1: restore", x.restore(0), UnitHours.STATE);
        for (int r = 0; r < 8; r++) {
            due("1: row " + r + " is missing", x.drop(r), NULL);
        }
        due("1: NONE", UnitHours.NONE, -1000000);
        due("1: BAD", UnitHours.BAD, -1000001);
        due("1: STATE", UnitHours.STATE, -1000002);
        due("1: FULL", UnitHours.FULL, -1000003);
    }

    private static void row() {
        UnitHours x = Check.withDay(READER);
        due("2: row", x.row(0, 0, 0), 0);
        due("2: row", x.row(7, 2, 40), 40);
        due("2: row", x.row(3, 1, 5), 5);
        due("2: three rows", x.count(0), 3);
        int[][] bad = {{-1, 0, 1}, {8, 0, 1}, {0, -1, 1}, {0, 3, 1}, {0, 0, 41}, {0, 0, Integer.MAX_VALUE},
            {8, 0, -1}, {0, 3, -1}, {Integer.MIN_VALUE, 0, 0}};
        for (int[] b : bad) {
            due("2: row(" + b[0] + ", " + b[1] + ", " + b[2] + ")", x.row(b[0], b[1], b[2]), UnitHours.BAD);
        }
        x.row(0, 2, 3);
        x.set(0, 2, 77);
        due("2: fewer than none", x.row(0, 0, -1), SIZE);
        due("2: fewer than none", x.row(0, 0, Integer.MIN_VALUE), SIZE);
        due("2: the row stays", x.bound(0, 2), 77);
        due("2: another in its place", x.row(0, 2, 3), 3);
        due("2: its items are 0", x.bound(0, 2), 0);
        due("2: as many rows", x.count(0), 3);
        x.row(0, 2, 1);
        due("2: it is shorter", x.set(0, 1, 1), PLACE);
        x.row(0, 2, 2);
        due("2: 0 again", x.bound(0, 1), 0);
    }

    private static void set() {
        UnitHours x = Check.withDay(READER);
        x.row(0, 0, 3);
        x.row(1, 1, 3);
        x.row(2, 2, 3);
        int[][] due = {{0, 127, 127}, {0, 128, -128}, {0, 255, -1}, {0, 256, 0}, {0, -129, 127}, {0, -5, -5},
            {1, 32767, 32767}, {1, 32768, -32768}, {1, 70000, 4464}, {1, -32769, 32767}, {1, 65536, 0},
            {2, Integer.MAX_VALUE, Integer.MAX_VALUE}, {2, Integer.MIN_VALUE, Integer.MIN_VALUE}, {2, 70000, 70000}};
        for (int[] d : due) {
            due("3: set(" + d[0] + ", 1, " + d[1] + ")", x.set(d[0], 1, d[1]), d[2]);
            due("3: the item", x.bound(d[0], 1), d[2]);
        }
        due("3: beside it", x.bound(2, 0), 0);
        due("3: beside it", x.bound(2, 2), 0);
        due("3: no such row", x.set(-1, 0, 0), UnitHours.BAD);
        due("3: no such row", x.set(8, 0, 0), UnitHours.BAD);
        due("3: missing", x.set(3, 0, 0), NULL);
        due("3: missing, ahead of the place", x.set(3, -1, 0), NULL);
        due("3: no such place", x.set(0, -1, 0), PLACE);
        due("3: no such place", x.set(0, 3, 0), PLACE);
        due("3: no such place", x.set(0, Integer.MAX_VALUE, 0), PLACE);
    }

    private static UnitHours counting() {
        UnitHours x = Check.withDay(READER);
        x.row(0, 2, 6);
        x.row(1, 2, 4);
        for (int k = 0; k < 6; k++) {
            x.set(0, k, k + 1);
        }
        return x;
    }

    private static long[] items(UnitHours x, int row, int n) {
        long[] items = new long[n];
        for (int k = 0; k < n; k++) {
            items[k] = x.bound(row, k);
        }
        return items;
    }

    private static void copy() {
        UnitHours x = counting();
        due("4: copy", x.copy(0, 1, 1, 2, 2), 2);
        CHECK.dueAll("4: to another", items(x, 1, 4), 0, 0, 2, 3);
        CHECK.dueAll("4: as it was", items(x, 0, 6), 1, 2, 3, 4, 5, 6);
        x = counting();
        due("4: copy on itself", x.copy(0, 0, 0, 2, 4), 4);
        CHECK.dueAll("4: forth", items(x, 0, 6), 1, 2, 1, 2, 3, 4);
        x = counting();
        due("4: copy on itself", x.copy(0, 2, 0, 0, 4), 4);
        CHECK.dueAll("4: back", items(x, 0, 6), 3, 4, 5, 6, 5, 6);
        due("4: none, at the ends", x.copy(0, 6, 1, 4, 0), 0);
        due("4: all", x.copy(1, 0, 1, 0, 4), 4);
    }

    private static void copyRefused() {
        UnitHours x = counting();
        x.row(2, 1, 4);
        due("4: no such row", x.copy(-1, 0, 0, 0, 1), UnitHours.BAD);
        due("4: no such row", x.copy(0, 0, 8, 0, 1), UnitHours.BAD);
        due("4: no such row, ahead of missing", x.copy(5, 0, 8, 0, 1), UnitHours.BAD);
        due("4: missing", x.copy(5, 0, 0, 0, 1), NULL);
        due("4: missing", x.copy(0, 0, 5, 0, 1), NULL);
        due("4: missing, ahead of the place", x.copy(0, -1, 5, 0, 1), NULL);
        due("4: two lanes", x.copy(0, 0, 2, 0, 1), STORE);
        due("4: two lanes, ahead of the place", x.copy(0, -1, 2, 0, 1), STORE);
        int[][] beyond = {{-1, 0, 1}, {0, -1, 1}, {0, 0, -1}, {0, 0, 5}, {6, 0, 1}, {7, 0, 0}, {0, 5, 0}, {3, 0, 4},
            {0, 4, 1}, {Integer.MAX_VALUE, 0, 1}, {1, 0, Integer.MAX_VALUE}, {0, Integer.MAX_VALUE, Integer.MAX_VALUE},
            {Integer.MIN_VALUE, 0, 1}, {0, 0, Integer.MIN_VALUE}};
        for (int[] b : beyond) {
            due("4: copy(0, " + b[0] + ", 1, " + b[1] + ", " + b[2] + ")", x.copy(0, b[0], 1, b[1], b[2]), PLACE);
        }
        CHECK.dueAll("4: nothing changed", items(x, 1, 4), 0, 0, 0, 0);
    }

    private static void drop() {
        UnitHours x = new UnitHours();
        x.row(4, 1, 9);
        x.row(5, 1, 0);
        due("5: drop", x.drop(4), 9);
        due("5: it is missing", x.set(4, 0, 0), NULL);
        due("5: drop", x.drop(4), NULL);
        due("5: an empty one", x.drop(5), 0);
        due("5: none left", x.count(0), 0);
        due("5: no such row", x.drop(-1), UnitHours.BAD);
        due("5: no such row", x.drop(8), UnitHours.BAD);
    }

    private static void status() {
        UnitHours x = Check.withDay(READER);
        x.row(0, 2, 1);
        due("37: none", x.status(), 0);
        x.set(0, 5, 1);
        due("37: PLACE", x.status(), 2);
        x.set(9, 5, 1);
        due("37: BAD leaves it", x.status(), 2);
        x.feed(65);
        x.count(0);
        x.layBest();
        due("37: others leave it", x.status(), 2);
        x.bound(1, 0);
        due("37: NULL", x.status(), 1);
        x.bound(0, 0);
        due("37: a bound without", x.status(), 0);
        x.alone(0, 0, 1, 0);
        due("37: PLACE", x.status(), 2);
        x.alone(0, 0, 0, 0);
        due("37: alone without", x.status(), 0);
        x.fits(0, 1, 1);
        due("37: NULL", x.status(), 1);
        x.fits(0, 0, 1);
        due("37: fits without", x.status(), 0);
        x.as(0, 4);
        due("37: KIND", x.status(), 3);
        x.as(0, 6);
        due("37: BAD leaves it", x.status(), 3);
        x.as(0, 1);
        due("37: as without", x.status(), 0);
        x.row(0, 2, -4);
        due("37: SIZE", x.status(), 4);
        x.row(1, 1, 1);
        due("37: row without", x.status(), 0);
        x.copy(0, 0, 1, 0, 1);
        due("37: STORE", x.status(), 5);
        x.copy(0, 0, 0, 0, 1);
        due("37: copy without", x.status(), 0);
        x.drop(3);
        due("37: NULL", x.status(), 1);
        x.drop(1);
        due("37: drop without", x.status(), 0);
        UnitHours y = new UnitHours();
        y.row(0, 0, -1);
        y.bound(0, 0);
        due("37: STATE leaves it", y.status(), 4);
    }
}
