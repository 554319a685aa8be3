/** Promises 6 to 19, sentence by sentence, at their edges. */
public final class DaySentencesTest {
    private static final int NONE = Sentences.NONE, BAD = Sentences.BAD, STATE = Sentences.STATE, FULL = Sentences.FULL;
    private static final int MOST = Sentences.MOST;
    private static final String TWO = Sentences.TWO, FOUR = Sentences.FOUR;

    public static void main(String[] args) {
        Sentences.runAll(DaySentencesTest.class, "p06", "p07", "p08", "p09", "p10", "p11", "p12", "p13", "p14", "p15",
                "p16", "p17", "p18", "p19");
    }

    private static void due(String call, long got, long want) {
        Sentences.due(call, got, want);
    }

    // ---- 6 feed

    private static void p06_eachByte() {
        for (int b = 0; b < 256; b++) {
            UnitHours x = Sentences.none();
            due("feed " + b, x.feed(b), 1);
            due("feed " + b, x.feed(b), 2);
            due("count", x.count(5), 2);
        }
    }

    private static void p06_noByte() {
        UnitHours x = Sentences.none();
        due("-1", x.feed(-1), BAD);
        due("256", x.feed(256), BAD);
        // their lowest eight bits are a letter
        due("256 and v", x.feed(256 + 'v'), BAD);
        due("v less 256", x.feed('v' - 256), BAD);
        for (int w : Sentences.wild()) {
            due("letter " + w, x.feed(w), BAD);
        }
        due("the tape", x.count(5), 0);
    }

    private static void p06_howManyItHas() {
        UnitHours x = Sentences.none();
        for (int k = 1; k <= 120; k++) {
            due("feed", x.feed(k), k);
        }
        due("full", x.feed(0), FULL);
        due("full", x.feed(255), FULL);
        due("BAD ahead of FULL", x.feed(-1), BAD);
        due("BAD ahead of FULL", x.feed(MOST), BAD);
        due("as many", x.count(5), 120);
    }

    private static void p06_behindTheTape() {
        UnitHours x = Sentences.none();
        Check.feedText(x, "v3;h4;h5;");
        Check.feedText(x, "p1,2,3,4,1,2;");
        due("day", x.day(), 1);
        Sentences.dueAll("in their order", new long[] {x.plan(4), x.hour(0, 0), x.hour(1, 0), x.unit(0, 0), x.unit(0, 1),
            x.unit(0, 2), x.unit(0, 3), x.unit(0, 4), x.unit(0, 5)}, 3, 4, 5, 1, 2, 3, 4, 1, 2);
    }

    private static void p06_leavesTheDay() {
        UnitHours x = Sentences.day(TWO);
        x.run(0, 1);
        x.feed('v');
        due("units", x.count(1), 2);
        due("on", x.unit(0, 6), 1);
        due("acts", x.count(4), 1);
    }

    // ---- 7 day

    private static void p07_howManyUnits() {
        for (int n = 1; n <= 4; n++) {
            UnitHours x = Sentences.none();
            Check.feedText(x, "v0;h0;" + "w0,0,1,0,1,1;".repeat(n));
            due("day", x.day(), n);
            due("count", x.count(1), n);
        }
    }

    private static void p07_theTapeIsEmptyThen() {
        UnitHours x = Sentences.none();
        Check.feedText(x, TWO);
        due("day", x.day(), 2);
        due("count", x.count(5), 0);
        due("the empty tape", x.day(), -1000100);
        Check.feedText(x, "v0;h");
        due("a fault", x.day(), -1000104);
        due("count", x.count(5), 0);
        due("feed", x.feed(7), 1);
    }

    private static void p07_nothingOfATextBeforeIsRead() {
        UnitHours x = Sentences.none();
        Check.feedText(x, "v0;h12345");
        due("three figures", x.day(), -1000104);
        Check.feedText(x, "v0;h1");
        due("one figure", x.day(), -1000105);
        Check.feedText(x, "v0;h12");
        due("two figures", x.day(), -1000106);
        Check.feedText(x, "v0;h1;p0,0,1,0,1,1;q");
        due("a letter", x.day(), -1000120);
        Check.feedText(x, "v0;h1;p0,0,1,0,1,1;");
        due("a day", x.day(), 1);
    }

    private static void p07_placesOfFaults() {
        Sentences.read("", 1, 0);
        Sentences.read("v0;h0;p0,0,1,0,1,1;x", 1, 19);
        Sentences.read("v00;h00;h00;h00;h00;h00;h00;" + "p00,00,01,00,01,01;".repeat(4) + "x", 1, 104);
    }

    private static void p07_rowsImagesAndTraceStay() {
        UnitHours x = Sentences.day(FOUR);
        x.row(2, 1, 5);
        x.image(0);
        x.ask(0, 0);
        Check.feedText(x, Sentences.READER);
        due("day", x.day(), 1);
        due("rows", x.count(0), 1);
        due("trace", x.trace(0), 11);
        due("restore", x.restore(0), 1);
        due("units", x.count(1), 4);
    }

    // ---- 8 fault

    private static void p08_0BeforeOne() {
        UnitHours x = Sentences.none();
        due("fault", x.fault(), 0);
        x.feed('x');
        due("not read yet", x.fault(), 0);
        due("a day without", Sentences.day(TWO).fault(), 0);
    }

    private static void p08_theLatest() {
        UnitHours x = Sentences.none();
        String[] texts = {"x", "v21", "v0;h0;h0;h0;h0;h0;h0;h", "v0;h61", ""};
        int[] faults = {1, 2, 3, 2, 1};
        for (int k = 0; k < texts.length; k++) {
            Check.feedText(x, texts[k]);
            x.day();
            due("fault of " + texts[k], x.fault(), faults[k]);
            due("once more", x.fault(), faults[k]);
        }
        Check.feedText(x, "v0;h61");
        x.day();
        Check.feedText(x, TWO);
        due("a day without", x.day(), 2);
        due("the latest stays", x.fault(), 2);
    }

    // ---- 9 run

    private static void p09_thoseInWhichItWasOn() {
        UnitHours x = Sentences.day(FOUR);
        int was = 0;
        for (int on : new int[] {1, 63, 32, 42, 21, 0, 62}) {
            due("run " + on, x.run(3, on), was);
            due("it is", x.unit(3, 6), on);
            was = on;
        }
        for (int u = 0; u < 3; u++) {
            due("another", x.unit(u, 6), 0);
        }
    }

    private static void p09_bitsOfHours() {
        for (int n = 1; n <= 6; n++) {
            UnitHours x = Sentences.day("v0;" + "h0;".repeat(n) + "p0,0,1,0,1,1;");
            due("all hours of " + n, x.run(0, (1 << n) - 1), 0);
            due("the last alone", x.run(0, 1 << n - 1), n == 1 ? STATE : (1 << n) - 1);
            due("one hour more", x.run(0, 1 << n), BAD);
            due("one hour more", x.run(0, (1 << n) + 1), BAD);
            due("below 0", x.run(0, -1), BAD);
            due("it stays", x.unit(0, 6), 1 << n - 1);
        }
    }

    private static void p09_wildNumbers() {
        UnitHours x = Sentences.day(FOUR);
        for (int w : Sentences.wild()) {
            due("hours " + w, x.run(0, w), BAD);
            due("unit " + w, x.run(w, 1), BAD);
        }
        due("unit 4", x.run(4, 1), BAD);
        due("unit -1", x.run(-1, 1), BAD);
        due("unit 3", x.run(3, 1), 0);
        due("acts", x.count(4), 1);
    }

    private static void p09_itIsSo() {
        UnitHours x = Sentences.day(FOUR);
        due("off", x.run(0, 0), STATE);
        x.run(0, 63);
        due("on", x.run(0, 63), STATE);
        due("another", x.run(1, 0), STATE);
        due("acts", x.count(4), 1);
    }

    private static void p09_alsoHoursItDoesNotKeep() {
        UnitHours x = Sentences.day("v0;h9;h9;h9;r0,5,1,0,3,3;");
        due("run", x.run(0, 5), 0);
        due("on", x.unit(0, 6), 5);
        due("keeps", x.unit(0, 8), 0);
    }

    // ---- 10 layBest

    private static void p10_itsCost() {
        UnitHours x = Sentences.day(TWO);
        due("layBest", x.layBest(), 38);
        due("cost", x.plan(0), 38);
        due("hour 0", x.hour(0, 1), x.best(0));
        due("hour 1", x.hour(1, 1), x.best(1));
        due("an act", x.count(4), 1);
    }

    private static void p10_unitsAreOffElsewhere() {
        UnitHours x = Sentences.day("v0;h4;h0;p1,4,1,0,1,1;p1,4,9,0,1,1;");
        x.run(0, 2);
        x.run(1, 3);
        due("layBest", x.layBest(), 4);
        due("unit 0", x.unit(0, 6), 1);
        due("unit 1", x.unit(1, 6), 0);
    }

    private static void p10_aBestThatCostsNothing() {
        UnitHours x = Sentences.day("v0;h0;p1,4,1,0,1,1;");
        x.run(0, 1);
        due("layBest", x.layBest(), 0);
        due("off", x.unit(0, 6), 0);
        due("acts", x.count(4), 2);
    }

    private static void p10_noneIsNoAct() {
        UnitHours x = Sentences.day("v0;h60;p1,4,1,0,1,1;");
        x.run(0, 1);
        due("layBest", x.layBest(), NONE);
        due("on still", x.unit(0, 6), 1);
        due("acts", x.count(4), 1);
        due("no day", Sentences.none().layBest(), STATE);
    }

    // ---- 11 demand

    private static void p11_0To60() {
        UnitHours x = Sentences.day(TWO);
        int was = 8;
        for (int v : new int[] {0, 60, 1, 59}) {
            due("demand " + v, x.demand(1, v), was);
            due("it is", x.hour(1, 0), v);
            due("the other", x.hour(0, 0), 5);
            was = v;
        }
        due("-1", x.demand(1, -1), BAD);
        due("61", x.demand(1, 61), BAD);
        for (int w : Sentences.wild()) {
            due("v " + w, x.demand(1, w), BAD);
        }
        due("it stays", x.hour(1, 0), 59);
        due("acts", x.count(4), 4);
    }

    private static void p11_hours() {
        UnitHours x = Sentences.day(TWO);
        due("the first", x.demand(0, 1), 5);
        due("the last", x.demand(1, 1), 8);
        due("one more", x.demand(2, 1), BAD);
        due("-1", x.demand(-1, 1), BAD);
        for (int w : Sentences.wild()) {
            due("hour " + w, x.demand(w, 1), BAD);
        }
        UnitHours y = Sentences.day(FOUR);
        due("the sixth", y.demand(5, 1), 9);
        due("the seventh", y.demand(6, 1), BAD);
        due("no day", Sentences.none().demand(0, 1), BAD);
        due("no day", Sentences.none().demand(0, 61), BAD);
    }

    // ---- 12 reserve

    private static void p12_0To20() {
        UnitHours x = Sentences.day(TWO);
        int was = 1;
        for (int v : new int[] {0, 20, 1, 19}) {
            due("reserve " + v, x.reserve(v), was);
            due("it is", x.plan(4), v);
            was = v;
        }
        due("-1", x.reserve(-1), BAD);
        due("21", x.reserve(21), BAD);
        for (int w : Sentences.wild()) {
            due("v " + w, x.reserve(w), BAD);
        }
        due("it stays", x.plan(4), 19);
        due("acts", x.count(4), 4);
    }

    private static void p12_stateAheadOfBad() {
        UnitHours x = Sentences.none();
        due("fits", x.reserve(0), STATE);
        due("does not", x.reserve(21), STATE);
        due("does not", x.reserve(-1), STATE);
        for (int w : Sentences.wild()) {
            due("v " + w, x.reserve(w), STATE);
        }
    }

    private static void p12_countsForEachHour() {
        UnitHours x = Sentences.day("v0;h5;h6;p0,7,1,0,1,1;");
        x.run(0, 3);
        due("both are met", x.plan(1), 0);
        x.reserve(1);
        due("both are met", x.plan(1), 0);
        x.reserve(2);
        due("hour 1 is not", x.plan(1), 2);
        x.reserve(3);
        due("none is", x.plan(1), 3);
    }

    // ---- 13 price

    private static void p13_1To9() {
        UnitHours x = Sentences.day(TWO);
        int was = 2;
        for (int v : new int[] {1, 9, 2, 8}) {
            due("price " + v, x.price(1, v), was);
            due("it is", x.unit(1, 2), v);
            due("the other", x.unit(0, 2), 3);
            was = v;
        }
        due("0", x.price(1, 0), BAD);
        due("10", x.price(1, 10), BAD);
        due("-1", x.price(1, -1), BAD);
        for (int w : Sentences.wild()) {
            due("v " + w, x.price(1, w), BAD);
        }
        due("it stays", x.unit(1, 2), 8);
        due("acts", x.count(4), 4);
    }

    private static void p13_units() {
        UnitHours x = Sentences.day(TWO);
        due("the last", x.price(1, 1), 2);
        due("one more", x.price(2, 1), BAD);
        due("-1", x.price(-1, 1), BAD);
        for (int w : Sentences.wild()) {
            due("unit " + w, x.price(w, 1), BAD);
        }
        UnitHours y = Sentences.day(FOUR);
        due("the fourth", y.price(3, 9), 1);
        due("the fifth", y.price(4, 9), BAD);
        due("no day", Sentences.none().price(0, 1), BAD);
    }

    private static void p13_whoGivesFirst() {
        UnitHours x = Sentences.day("v0;h5;p0,4,3,0,1,1;p0,4,5,0,1,1;");
        x.run(0, 1);
        x.run(1, 1);
        due("unit 0", x.gives(0, 0), 4);
        x.price(1, 3);
        due("of like price the lesser number", x.gives(0, 0), 4);
        x.price(1, 2);
        due("unit 1", x.gives(0, 0), 1);
        x.undo();
        due("undone", x.gives(0, 0), 4);
    }

    // ---- 14 become

    private static void p14_1To5() {
        UnitHours x = Sentences.day(TWO);
        int was = 2;
        for (int v : new int[] {1, 5, 2, 4, 3}) {
            due("become " + v, x.become(1, v), was);
            due("it is", x.kind(1), v);
            due("the other", x.kind(0), 1);
            was = v;
        }
        due("0", x.become(1, 0), BAD);
        due("6", x.become(1, 6), BAD);
        due("-1", x.become(1, -1), BAD);
        for (int w : Sentences.wild()) {
            due("kind " + w, x.become(1, w), BAD);
        }
        due("it stays", x.kind(1), 3);
        due("acts", x.count(4), 5);
    }

    private static void p14_itIsThat() {
        UnitHours x = Sentences.day(FOUR);
        for (int u = 0; u < 4; u++) {
            due("it is that", x.become(u, u + 1), STATE);
        }
        due("acts", x.count(4), 0);
        x.become(0, 5);
        due("it is that now", x.become(0, 5), STATE);
        due("what it was", x.become(0, 1), 5);
    }

    private static void p14_units() {
        UnitHours x = Sentences.day(FOUR);
        due("the fourth", x.become(3, 1), 4);
        due("the fifth", x.become(4, 1), BAD);
        due("-1", x.become(-1, 1), BAD);
        for (int w : Sentences.wild()) {
            due("unit " + w, x.become(w, 1), BAD);
        }
        due("no day", Sentences.none().become(0, 1), BAD);
    }

    private static void p14_theRestOfTheUnitStays() {
        UnitHours x = Sentences.day("v0;h9;h9;p3,8,2,7,2,3;");
        x.run(0, 3);
        for (int kind : new int[] {4, 5, 2, 3, 1}) {
            x.become(0, kind);
            Sentences.dueAll("kind " + kind, new long[] {x.unit(0, 0), x.unit(0, 1), x.unit(0, 2), x.unit(0, 3),
                x.unit(0, 4), x.unit(0, 5), x.unit(0, 6)}, 3, 8, 2, 7, 2, 3, 3);
        }
    }

    // ---- 15 undo

    private static void p15_howManyCanBeUndoneYet() {
        UnitHours x = Sentences.day(TWO);
        due("none", x.undo(), STATE);
        x.run(0, 1);
        x.run(0, 2);
        x.run(0, 3);
        due("undo", x.undo(), 2);
        due("on", x.unit(0, 6), 2);
        due("undo", x.undo(), 1);
        due("on", x.unit(0, 6), 1);
        due("undo", x.undo(), 0);
        due("on", x.unit(0, 6), 0);
        due("none", x.undo(), STATE);
        due("no day", Sentences.none().undo(), STATE);
    }

    private static void p15_undoIsNoAct() {
        UnitHours x = Sentences.day(TWO);
        x.run(0, 1);
        x.run(0, 2);
        x.undo();
        due("one", x.count(4), 1);
        due("run", x.run(0, 3), 1);
        due("two", x.count(4), 2);
        due("undo", x.undo(), 1);
        due("on", x.unit(0, 6), 1);
    }

    private static void p15_imagesAndRowsStay() {
        UnitHours x = Sentences.day(TWO);
        x.run(0, 1);
        x.row(0, 0, 4);
        x.image(0);
        x.undo();
        due("rows", x.count(0), 1);
        due("restore", x.restore(0), 1);
        due("on", x.unit(0, 6), 1);
    }

    // ---- 16 unit

    private static void p16_each() {
        UnitHours x = Sentences.day(FOUR);
        long[][] told = {{4, 14, 3, 10, 2, 2}, {3, 12, 5, 8, 1, 1}, {2, 10, 4, 5, 2, 1}, {5, 9, 1, 30, 1, 3}};
        for (int u = 0; u < 4; u++) {
            for (int w = 0; w < 6; w++) {
                due("unit(" + u + ", " + w + ")", x.unit(u, w), told[u][w]);
            }
        }
        x.run(3, 0b101011);
        due("on", x.unit(3, 6), 0b101011);
        due("starts", x.unit(3, 7), 0b101001);
        due("keeps", x.unit(3, 8), 0);
        due("another keeps", x.unit(2, 8), 1);
    }

    private static void p16_edges() {
        UnitHours x = Sentences.day(FOUR);
        due("what 9", x.unit(0, 9), BAD);
        due("what -1", x.unit(0, -1), BAD);
        due("unit 4", x.unit(4, 0), BAD);
        due("unit -1", x.unit(-1, 0), BAD);
        for (int w : Sentences.wild()) {
            due("what " + w, x.unit(0, w), BAD);
            due("unit " + w, x.unit(w, 0), BAD);
        }
        for (int w = 0; w < 9; w++) {
            due("no day", Sentences.none().unit(0, w), BAD);
        }
    }

    // ---- 17 hour

    private static void p17_each() {
        UnitHours x = Sentences.day(FOUR);
        for (int u = 0; u < 4; u++) {
            x.run(u, 0b100001 << u & 63);
        }
        long[][] due = {{10, 1, 4, 14, 1}, {22, 2, 3, 12, 0}, {30, 4, 2, 2, 0}, {18, 8, 0, 9, 0}, {5, 0, 0, 0, 0},
            {9, 1, 4, 14, 1}};
        for (int h = 0; h < 6; h++) {
            for (int w = 0; w < 5; w++) {
                due("hour(" + h + ", " + w + ")", x.hour(h, w), due[h][w]);
            }
        }
    }

    private static void p17_edges() {
        UnitHours x = Sentences.day(FOUR);
        due("what 5", x.hour(0, 5), BAD);
        due("what -1", x.hour(0, -1), BAD);
        due("hour 6", x.hour(6, 0), BAD);
        due("hour -1", x.hour(-1, 0), BAD);
        for (int w : Sentences.wild()) {
            due("what " + w, x.hour(0, w), BAD);
            due("hour " + w, x.hour(w, 0), BAD);
        }
        due("of a shorter day", Sentences.day(TWO).hour(2, 0), BAD);
        for (int w = 0; w < 5; w++) {
            due("no day", Sentences.none().hour(0, w), BAD);
        }
    }

    // ---- 18 gives

    private static void p18_noneIfNotMet() {
        UnitHours x = Sentences.day(TWO);
        due("not met", x.gives(0, 0), NONE);
        x.run(0, 3);
        due("met", x.gives(0, 0), 5);
        due("one that is off", x.gives(1, 0), 0);
        due("not met", x.gives(0, 1), NONE);
        due("not met, off", x.gives(1, 1), NONE);
        x.run(1, 2);
        due("met", x.gives(0, 1), 3);
        due("met", x.gives(1, 1), 5);
    }

    private static void p18_alsoOfUnitsThatDoNotKeepTheirHours() {
        UnitHours x = Sentences.day("v0;h3;h0;p3,3,1,0,2,1;");
        x.run(0, 1);
        due("it breaks them", x.unit(0, 8), 0);
        due("gives", x.gives(0, 0), 3);
        due("gives", x.gives(0, 1), 0);
    }

    private static void p18_edges() {
        UnitHours x = Sentences.day(FOUR);
        due("unit 4", x.gives(4, 0), BAD);
        due("unit -1", x.gives(-1, 0), BAD);
        due("hour 6", x.gives(0, 6), BAD);
        due("hour -1", x.gives(0, -1), BAD);
        due("both, the last", x.gives(3, 5), NONE);
        for (int w : Sentences.wild()) {
            due("unit " + w, x.gives(w, 0), BAD);
            due("hour " + w, x.gives(0, w), BAD);
        }
        due("no day", Sentences.none().gives(0, 0), BAD);
    }

    // ---- 19 plan

    private static void p19_each() {
        UnitHours x = Sentences.day("v1;h3;h0;h4;p3,8,2,7,2,1;w0,5,1,0,1,3;");
        x.run(0, 1);
        x.run(1, 5);
        Sentences.dueAll("plan", new long[] {x.plan(0), x.plan(1), x.plan(2), x.plan(3), x.plan(4)}, NONE, 2, 3, 3, 1);
        x.run(0, 0);
        x.run(1, 7);
        Sentences.dueAll("plan", new long[] {x.plan(0), x.plan(1), x.plan(2), x.plan(3), x.plan(4)}, 7, 0, 0, 1, 1);
    }

    private static void p19_theMostThatItCanBe() {
        UnitHours x = Sentences.day("v20;h60;h60;h60;h60;h60;h60;" + "r0,0,1,0,1,1;".repeat(4));
        for (int u = 0; u < 4; u++) {
            x.run(u, 0b010101);
        }
        Sentences.dueAll("plan", new long[] {x.plan(0), x.plan(1), x.plan(2), x.plan(3), x.plan(4)}, NONE, 63, 15, 12, 20);
    }

    private static void p19_edges() {
        UnitHours x = Sentences.day(TWO);
        due("what 5", x.plan(5), BAD);
        due("what -1", x.plan(-1), BAD);
        for (int w : Sentences.wild()) {
            due("what " + w, x.plan(w), BAD);
            due("no day: what " + w, Sentences.none().plan(w), STATE);
        }
        for (int w = -1; w <= 5; w++) {
            due("no day: what " + w, Sentences.none().plan(w), STATE);
        }
    }
}
