/** Counts the answers that a test looks at, and prints those that are not as due. */
final class Check {
    private final String test;
    private int passed;
    private int failed;

    Check(String test) {
        this.test = test;
    }

    void due(String call, long got, long want) {
        if (got == want) {
            passed++;
        } else {
            failed++;
            System.out.println(test + ": " + call + " answered " + got + ", due is " + want);
        }
    }

    void holds(String what, boolean isSo) {
        due(what, isSo ? 1 : 0, 1);
    }

    /** Answers of a run of like calls, one after the other. */
    void dueAll(String call, long[] got, long... want) {
        due(call + ": how many", got.length, want.length);
        for (int k = 0; k < Math.min(got.length, want.length); k++) {
            due(call + " [" + k + "]", got[k], want[k]);
        }
    }

    void finish() {
        System.out.println(test + ": " + passed + " passed, " + failed + " failed");
        if (failed != 0 || passed == 0) {
            System.exit(1);
        }
    }

    static void feedText(UnitHours x, String text) {
        for (int k = 0; k < text.length(); k++) {
            x.feed(text.charAt(k));
        }
    }

    static UnitHours withDay(String text) {
        UnitHours x = new UnitHours();
        feedText(x, text);
        if (x.day() < 0) {
            throw new IllegalStateException("no day: " + text + ", fault " + x.fault());
        }
        return x;
    }
}
