import java.lang.reflect.InvocationTargetException;
import java.lang.reflect.Method;
import java.util.Map;
import java.util.Set;
import java.util.TreeMap;
import java.util.TreeSet;

/**
 * Runs tests that stand for one sentence of the document each. Their names begin with what they are of: p09_ is
 * promise 9; t0_ the first lines of 'Terms', t1_ to t4_ its parts.
 */
final class Sentences {
    static final int NONE = -1000000, BAD = -1000001, STATE = -1000002, FULL = -1000003;
    static final int NULL = -1000011, PLACE = -1000012, KIND = -1000013, SIZE = -1000014, STORE = -1000015;
    static final int LEAST = Integer.MIN_VALUE, MOST = Integer.MAX_VALUE;
    /** One hour of demand 1 and a unit that gives nothing: bound(row, i) is item i then. */
    static final String READER = "v0;h1;p0,0,1,0,1,1;";
    /** Two hours; a plain unit of 2 to 6 for 3, its start 4; a quick one of 1 to 5 for 2, its start 7. */
    static final String TWO = "v1;h5;h8;p2,6,3,4,1,1;q1,5,2,7,1,1;";
    /** Six hours and four units, the most there can be, one of each kind but rivers. */
    static final String FOUR = "v2;h10;h22;h30;h18;h5;h9;p4,14,3,10,2,2;q3,12,5,8,1,1;s2,10,4,5,2,1;w5,9,1,30,1,3;";

    private static Check check;
    private static String test = "";

    private Sentences() {
    }

    static void runAll(Class<?> tests, String... wanted) {
        check = new Check(tests.getSimpleName());
        Map<String, Method> byName = new TreeMap<>();
        for (Method m : tests.getDeclaredMethods()) {
            if (m.getName().matches("(p\\d\\d|t\\d)_\\w+")) {
                m.setAccessible(true);
                byName.put(m.getName(), m);
            }
        }
        Set<String> lacking = new TreeSet<>(Set.of(wanted));
        for (Method m : byName.values()) {
            test = m.getName();
            lacking.remove(test.substring(0, test.indexOf('_')));
            runOne(m);
        }
        test = "all";
        holds("each of these has a test: " + lacking, lacking.isEmpty());
        System.out.println(byName.size() + " sentences");
        check.finish();
    }

    /** What the class throws is a failure of this sentence, and of this one alone. */
    private static void runOne(Method m) {
        try {
            m.invoke(null);
        } catch (InvocationTargetException e) {
            holds("threw " + e.getCause(), false);
        } catch (IllegalAccessException e) {
            holds("not to be called: " + e, false);
        }
    }

    static void due(String call, long got, long want) {
        check.due(test + ": " + call, got, want);
    }

    static void holds(String what, boolean isSo) {
        check.holds(test + ": " + what, isSo);
    }

    static void dueAll(String call, long[] got, long... want) {
        check.dueAll(test + ": " + call, got, want);
    }

    /** Numbers that no call takes for anything: all ints but what lies near what is told. */
    static int[] wild() {
        return new int[] {LEAST, LEAST + 1, -(1 << 30), -(1 << 16), -1000003, -1000000, -256, -128, -100,
            1000000, 1 << 20, 1 << 24, 1 << 30, MOST - 40, MOST - 1, MOST};
    }

    static UnitHours none() {
        return new UnitHours();
    }

    static UnitHours day(String text) {
        return Check.withDay(text);
    }

    static UnitHours priced(String text, int... prices) {
        UnitHours x = day(text);
        x.row(0, 2, prices.length);
        for (int k = 0; k < prices.length; k++) {
            x.set(0, k, prices[k]);
        }
        return x;
    }

    static long[] items(UnitHours reader, int row, int n) {
        long[] items = new long[n];
        for (int k = 0; k < n; k++) {
            items[k] = reader.bound(row, k);
        }
        return items;
    }

    /** A day of a fault at a place; number 0: no fault, and so many units as place says. */
    static void read(String text, int number, int place) {
        UnitHours x = new UnitHours();
        Check.feedText(x, text);
        due("day of '" + text + "'", x.day(), number == 0 ? place : -1000100 - place);
        due("fault of '" + text + "'", x.fault(), number);
        due("tape behind '" + text + "'", x.count(5), 0);
        due("units behind '" + text + "'", x.count(1), number == 0 ? place : 0);
    }
}
