/** Promises 32 to 36 (37 is in RowsTest). */
public final class AskedTest {
    private static final int BAD = UnitHours.BAD, NONE = UnitHours.NONE, KIND = -1000013;
    private static final String FOUR = "v0;h1;h1;h1;p1,11,1,1,1,1;q1,12,1,1,1,1;s1,13,1,1,1,1;w1,14,1,1,1,1;";
    private static final Check CHECK = new Check("AskedTest");

    public static void main(String[] args) {
        kinds();
        as();
        asks();
        trace();
        count();
        CHECK.finish();
    }

    private static void due(String call, long got, long want) {
        CHECK.due(call, got, want);
    }

    private static void kinds() {
        UnitHours x = Check.withDay(FOUR);
        for (int u = 0; u < 4; u++) {
            due("32: kind", x.kind(u), u + 1);
        }
        x.become(2, 5);
        due("32: another kind", x.kind(2), 5);
        due("32: unit", x.kind(4), BAD);
        due("32: unit", x.kind(-1), BAD);
        due("32: no day", new UnitHours().kind(0), BAD);
    }

    private static void as() {
        UnitHours x = Check.withDay(FOUR);
        String[] is = {"110000", "111000", "110100", "100010", "100011"};
        for (int kind = 1; kind <= 5; kind++) {
            x.become(3, kind);
            for (int as = 0; as <= 5; as++) {
                boolean isOne = is[kind - 1].charAt(as) == '1';
                due("33: " + kind + " as " + as, x.as(3, as), isOne ? 3 : KIND);
                due("33: status", x.status(), isOne ? 0 : 3);
            }
        }
        due("33: kind", x.as(0, -1), BAD);
        due("33: kind", x.as(0, 6), BAD);
        due("33: unit", x.as(4, 0), BAD);
        due("33: unit", x.as(-1, 0), BAD);
        due("33: no day", new UnitHours().as(0, 0), BAD);
    }

    private static void asked(UnitHours x, int unit, int what, long answer, long... trace) {
        due("34: ask(" + unit + ", " + what + ")", x.ask(unit, what), answer);
        for (int k = 0; k < trace.length; k++) {
            due("35: trace(" + k + ") of ask(" + unit + ", " + what + ")", x.trace(k), trace[k]);
        }
        due("35: no more", x.trace(trace.length), NONE);
    }

    private static void asks() {
        UnitHours x = Check.withDay(FOUR);
        x.run(0, 5);
        x.run(1, 7);
        x.run(2, 4);
        x.run(3, 7);
        asked(x, 0, 0, 11 + 2, 11, 10, 21, 20);
        asked(x, 0, 1, 2, 21, 20);
        asked(x, 1, 0, -(12 + 2 * (1 + 3)), 12, 11, 10, 24, 21, 20);
        asked(x, 1, 1, 2 * (1 + 3), 24, 21, 20);
        asked(x, 2, 0, 13 + 2 + 1 - 1000, 11, 10, 22, 21, 20);
        asked(x, 2, 1, 2 + 1 - 1000, 22, 21, 20);
        asked(x, 3, 0, 14 - 100, 13, 10);
        asked(x, 3, 1, 3 - (14 - 100), 23, 20, 13, 10);
        x.become(3, 5);
        asked(x, 3, 0, 2 * (14 - 100), 14, 13, 10);
        asked(x, 3, 1, 3 - 2 * (14 - 100), 23, 20, 14, 13, 10);
        due("34: what", x.ask(0, 2), BAD);
        due("34: what", x.ask(0, -1), BAD);
        due("34: unit", x.ask(4, 0), BAD);
        due("34: unit", x.ask(-1, 0), BAD);
        due("34: what is refused leaves the trace", x.trace(0), 23);
        due("34: no day", new UnitHours().ask(0, 0), BAD);
    }

    private static void trace() {
        UnitHours x = Check.withDay(FOUR);
        due("35: none yet", x.trace(0), NONE);
        x.ask(0, 1);
        due("35: below", x.trace(-1), NONE);
        due("35: far below", x.trace(Integer.MIN_VALUE), NONE);
        due("35: beyond", x.trace(16), NONE);
        due("35: far beyond", x.trace(Integer.MAX_VALUE), NONE);
    }

    private static void count() {
        UnitHours x = Check.withDay(FOUR);
        x.row(6, 0, 3);
        x.run(0, 1);
        x.demand(1, 9);
        x.feed(1);
        x.feed(2);
        x.feed(3);
        CHECK.dueAll("36: count", new long[] {x.count(0), x.count(1), x.count(2), x.count(3), x.count(4), x.count(5)},
                1, 4, 3, 11, 2, 3);
        due("36: what", x.count(-1), BAD);
        due("36: what", x.count(6), BAD);
    }
}
