import java.lang.reflect.InvocationTargetException;
import java.lang.reflect.Method;
import java.util.ArrayList;
import java.util.Arrays;
import java.util.List;

/**
 * Arguments go over all ints: each argument of each call takes the numbers beside each edge of the document, and
 * the least and the greatest ints, in several states; then all arguments of a call take the wildest ones at once.
 * Every answer, and status() behind it, must be the model's.
 */
public final class IntsTest {
    private static final int LEAST = Integer.MIN_VALUE, MOST = Integer.MAX_VALUE;
    private static final int[] EDGES = {LEAST, LEAST + 1, LEAST + 40, -1000001, -1000000, -65537, -32769, -257, -256,
        -129, -41, -40, -3, -2, -1, 0, 1, 2, 3, 4, 5, 6, 7, 8, 9, 10, 12, 13, 16, 20, 21, 39, 40, 41, 60, 61, 63, 64,
        119, 120, 121, 127, 128, 255, 256, 257, 32767, 32768, 65535, 65536, 99999, 100000, 999999, 1000000, 1 << 24,
        1 << 30, MOST - 40, MOST - 5, MOST - 1, MOST};
    private static final int[] WILDEST = {LEAST, -1, 0, 1, MOST};
    private static final int[][] BASES = {{0, 0, 0, 0, 0}, {1, 1, 1, 1, 1}, {2, 0, 2, 1, 2}};
    private static final String[] STATES = {"", "v0;h1;p0,0,1,0,1,1;", "v1;h5;h8;p2,6,3,4,1,1;q1,5,2,7,1,1;",
        "v2;h10;h22;h5;p4,14,3,10,2,2;s2,10,4,5,2,1;r5,9,1,30,1,3;", "v20;h60;h60;p0,30,1,0,1,1;w0,30,9,40,3,3;"};
    private static final Check CHECK = new Check("IntsTest");

    private final UnitHours x = new UnitHours();
    private final Model m = new Model();
    private final String state;
    private int calls;

    private IntsTest(String text) throws Exception {
        state = text.isEmpty() ? "no day" : text;
        for (int k = 0; k < text.length(); k++) {
            same("feed", text.charAt(k));
        }
        same("day");
        same("row", 0, 2, 7);
        same("row", 1, 0, 3);
        same("row", 2, 1, 40);
        for (int k = 0; k < 7; k++) {
            same("set", 0, k, 5 * k - 4);
        }
        same("run", 0, 1);
        same("image", 0);
        same("demand", 0, 9);
        same("layBest");
    }

    public static void main(String[] args) throws Exception {
        for (String state : STATES) {
            for (Method call : UnitHours.class.getDeclaredMethods()) {
                int n = call.getParameterCount();
                if (java.lang.reflect.Modifier.isPublic(call.getModifiers())) {
                    eachArgument(state, call.getName(), n);
                    allAtOnce(state, call.getName(), n);
                }
            }
        }
        CHECK.finish();
    }

    private static void eachArgument(String state, String call, int n) throws Exception {
        for (int at = 0; at < n; at++) {
            for (int[] base : BASES) {
                IntsTest pair = new IntsTest(state);
                for (int v : EDGES) {
                    int[] args = Arrays.copyOf(base, n);
                    args[at] = v;
                    pair.same(call, args);
                    pair.same("status");
                }
                pair.looks();
            }
        }
    }

    private static void allAtOnce(String state, String call, int n) throws Exception {
        List<int[]> all = new ArrayList<>();
        all.add(new int[n]);
        for (int at = 0; at < n; at++) {
            List<int[]> more = new ArrayList<>();
            for (int[] args : all) {
                for (int v : WILDEST) {
                    int[] other = args.clone();
                    other[at] = v;
                    more.add(other);
                }
            }
            all = more;
        }
        IntsTest pair = new IntsTest(state);
        for (int[] args : all) {
            if (pair.calls > 300) {
                pair.looks();
                pair = new IntsTest(state);
            }
            pair.same(call, args);
            pair.same("status");
        }
        pair.looks();
    }

    private void looks() throws Exception {
        for (int w = 0; w < 6; w++) {
            same("count", w);
            same("hour", w, 0);
            same("hour", w, 1);
        }
        for (int u = 0; u < 4; u++) {
            same("kind", u);
            same("unit", u, 2);
            same("unit", u, 6);
        }
        for (int r = 0; r < 8; r++) {
            for (int k = 0; k < 4; k++) {
                same("bound", r, k);
            }
        }
        same("fault");
        same("trace", 0);
        same("best", -1);
        for (int k = 0; k < 3; k++) {
            same("undo");
            same("best", -1);
        }
        same("restore", 0);
        same("best", -1);
        CHECK.holds("an object is used for 512 calls at most: " + calls, calls <= 512);
    }

    private void same(String call, int... args) throws Exception {
        calls++;
        CHECK.due(call + Arrays.toString(args) + " of " + state, answer(x, call, args), answer(m, call, args));
    }

    private static long answer(Object of, String call, int[] args) throws Exception {
        Class<?>[] types = new Class<?>[args.length];
        Object[] values = new Object[args.length];
        for (int k = 0; k < args.length; k++) {
            types[k] = int.class;
            values[k] = args[k];
        }
        Method m = of.getClass().getDeclaredMethod(call, types);
        try {
            return ((Number) m.invoke(of, values)).longValue();
        } catch (InvocationTargetException e) {
            System.out.println(call + Arrays.toString(args) + " threw " + e.getCause());
            return of instanceof Model ? Long.MIN_VALUE : Long.MAX_VALUE;
        }
    }
}
