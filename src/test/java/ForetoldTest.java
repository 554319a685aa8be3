/** Promises 20 to 31. */
public final class ForetoldTest {
    private static final int NONE = UnitHours.NONE, BAD = UnitHours.BAD, STATE = UnitHours.STATE;
    private static final int NULL = -1000011, PLACE = -1000012;
    private static final String TWO = "v1;h5;h8;p2,6,3,4,1,1;q1,5,2,7,1,1;";
    private static final String DAY = "v2;h10;h22;h30;h18;h5;p4,14,3,10,2,2;q3,12,5,8,1,1;s2,10,4,5,2,1;w5,9,1,30,1,3;";
    /** A seed whose first draw is a demand of 0. */
    private static final int DRAWS_0 = 23;
    private static final Check CHECK = new Check("ForetoldTest");

    public static void main(String[] args) {
        best();
        firstOfSeveral();
        bestByKinds();
        alone();
        aloneByKinds();
        aloneRefused();
        bound();
        moved();
        gap();
        more();
        wanted();
        demandsBy();
        demandsOfAnyHour();
        whatCostsNothing();
        afterChanges();
        kindsAndPricesBy();
        fits();
        drawn();
        images();
        nothingChanges();
        CHECK.finish();
    }

    private static void due(String call, long got, long want) {
        CHECK.due(call, got, want);
    }

    private static void best(String text, long cost, long... plan) {
        UnitHours x = Check.withDay(text);
        due("20: cost of " + text, x.best(-1), cost);
        for (int h = 0; h < plan.length; h++) {
            due("20: hour " + h + " of " + text, x.best(h), plan[h]);
        }
    }

    private static void best() {
        best(TWO, 38, 3, 3);
        best(DAY, 203, 9, 13, 13, 9, 8);
        best("v1;h5;h60;p2,6,3,4,1,1;q1,5,2,7,1,1;", NONE, NONE, NONE);
        best("v0;h0;p5,9,1,0,1,1;", 0, 0);
        UnitHours x = Check.withDay(TWO);
        due("20: what", x.best(-2), BAD);
        due("20: what", x.best(2), BAD);
        due("20: no day", new UnitHours().best(-2), STATE);
        x.price(0, 1);
        due("20: by another price", x.best(-1), 5 + 4 + 6 + 2 * 2 + 3);
        due("20: the quick one rests", x.best(0), 1);
        x.undo();
        due("20: undone", x.best(-1), 38);
        x.demand(1, 5);
        due("20: by another demand", x.best(-1), 31);
        x.reserve(0);
        due("20: by another reserve", x.best(-1), 5 * 2 + 3 + 5 * 2);
        due("20: the plain one rests", x.best(0), 2);
    }

    /** Like units: of plans of like cost the one whose hour 0 is least, then hour 1. */
    private static void firstOfSeveral() {
        best("v0;h4;h4;p1,4,2,0,1,1;p1,4,2,0,1,1;", 16, 1, 1);
        best("v0;h4;h4;p1,4,2,1,1,1;p1,4,2,1,1,1;", 17, 1, 1);
        best("v0;h4;h4;p1,4,2,0,1,3;p1,4,2,0,1,3;p1,4,2,0,1,3;", 16, 1, 1);
        best("v0;h0;h0;w0,4,2,9,1,1;r0,4,2,9,1,1;", 0, 2, 2);
        best("v4;h0;h0;w0,4,2,9,1,1;w0,4,2,9,1,1;", 0, 1, 1);
    }

    private static void bestByKinds() {
        best("v0;h4;h8;s4,8,1,9,1,1;", 21, 1, 1);
        best("v0;h5;h8;s4,8,1,9,1,1;", NONE, NONE, NONE);
        best("v0;h5;h8;p4,8,1,9,1,1;", 22, 1, 1);
        best("v0;h5;h8;q4,8,1,9,1,1;", 17, 1, 1);
        best("v0;h5;h0;h5;w4,8,1,9,1,1;", 10, 1, 0, 1);
        best("v0;h5;h0;h5;w4,8,1,9,2,1;", 10, 1, 1, 1);
        best("v0;h5;h0;h5;w4,8,1,9,1,2;", 10, 1, 1, 1);
        best("v0;h5;h0;h5;r4,8,1,9,1,1;", 10, 1, 1, 1);
        best("v0;h5;h0;h5;p4,8,1,9,1,1;", 28, 1, 0, 1);
        best("v0;h5;h0;h5;p4,8,1,9,1,2;", NONE, NONE, NONE, NONE);
        best("v0;h5;h0;h0;h5;p4,8,1,9,1,2;", 28, 1, 0, 0, 1);
        best("v0;h5;h0;h0;h5;p4,8,1,9,1,3;", NONE);
        best("v0;h0;h5;p4,8,1,9,3,3;", 14, 0, 1);
        best("v0;h5;h0;p4,8,1,9,2,1;", NONE);
        best("v0;h5;h4;h0;p4,8,1,9,2,3;", 18, 1, 1, 0);
        best("v0;h5;h1;h1;h0;p1,9,2,3,3,1;", 17, 1, 1, 1, 0);
        best("v0;h5;h1;h0;h5;p1,9,2,3,3,1;", NONE);
        best("v0;h5;h1;h1;h1;h1;h0;p1,9,2,3,3,1;", 21, 1, 1, 1, 1, 1, 0);
    }

    private static UnitHours priced(String text, int... prices) {
        UnitHours x = Check.withDay(text);
        x.row(0, 2, 9);
        for (int k = 0; k < prices.length; k++) {
            x.set(0, k, prices[k]);
        }
        return x;
    }

    private static void alone(String text, int[] prices, long loss, long on, long... given) {
        UnitHours x = priced(text, prices);
        due("21: loss of " + text, x.alone(0, 0, 0, -2), loss);
        due("21: hours of " + text, x.alone(0, 0, 0, -1), on);
        for (int h = 0; h < given.length; h++) {
            due("21: given in " + h + " of " + text, x.alone(0, 0, 0, h), given[h]);
        }
    }

    private static void alone() {
        String text = "v0;h0;h0;h0;p1,4,2,3,2,1;";
        alone(text, new int[] {9, 0, 9}, -51, 7, 4, 1, 4);
        alone(text, new int[] {9, -60, 9}, -25, 4, 0, 0, 4);
        alone(text, new int[] {2, 2, 2}, 0, 0, 0, 0, 0);
        alone(text, new int[] {0, 0, 0}, 0, 0, 0, 0, 0);
        alone(text, new int[] {3, 3, 3}, -9, 7, 4, 4, 4);
        alone("v0;h0;h0;h0;p0,4,2,4,1,1;", new int[] {3, 0, 0}, 0, 0, 0, 0, 0);
        alone("v0;h0;h0;h0;p0,4,2,4,1,3;", new int[] {4, 0, 4}, -12, 7, 4, 0, 4);
        alone("v0;h0;h0;h0;p0,4,2,0,1,1;", new int[] {4, 0, 4}, -16, 5, 4, 0, 4);
        UnitHours x = priced(text, 1, 9, 0, 9);
        due("21: from another place", x.alone(0, 0, 1, -2), -51);
        due("21: to the end", x.alone(0, 0, 6, -2), 0);
        x.set(0, 0, Integer.MAX_VALUE);
        x.set(0, 1, Integer.MAX_VALUE);
        x.set(0, 2, Integer.MAX_VALUE);
        due("21: beyond an int", x.alone(0, 0, 0, -2), 3 + 12 * (2L - Integer.MAX_VALUE));
    }

    private static void aloneByKinds() {
        int[] prices = {9, 0, 9};
        alone("v0;h0;h0;h0;q1,4,2,7,2,1;", prices, -51, 7, 4, 1, 4);
        alone("v0;h0;h0;h0;s1,4,2,3,2,1;", prices, -30, 7, 1, 1, 4);
        alone("v0;h0;h0;h0;w1,4,2,3,2,1;", prices, -56, 7, 4, 0, 4);
        alone("v0;h0;h0;h0;w1,4,2,3,1,1;", prices, -56, 5, 4, 0, 4);
        alone("v0;h0;h0;h0;r1,4,2,3,2,1;", prices, -56, 7, 4, 0, 4);
        alone("v0;h0;h0;h0;r1,4,2,3,2,1;", new int[] {-5, -5, -5}, 0, 7, 0, 0, 0);
        alone("v0;h0;h0;h0;w1,4,2,3,2,1;", new int[] {-5, -5, -5}, 0, 0, 0, 0, 0);
    }

    private static void aloneRefused() {
        UnitHours x = priced(TWO, 1, 2, 3);
        due("21: unit", x.alone(2, 0, 0, 0), BAD);
        due("21: unit", x.alone(-1, 0, 0, 0), BAD);
        due("21: row", x.alone(0, 8, 0, 0), BAD);
        due("21: row", x.alone(0, -1, 0, 0), BAD);
        due("21: what", x.alone(0, 0, 0, -3), BAD);
        due("21: what", x.alone(0, 0, 0, 2), BAD);
        due("21: what, ahead of NULL", x.alone(0, 5, 0, 2), BAD);
        due("21: missing", x.alone(0, 5, -1, 0), NULL);
        due("21: place", x.alone(0, 0, -1, 0), PLACE);
        due("21: place", x.alone(0, 0, 8, 0), PLACE);
        due("21: place", x.alone(0, 0, Integer.MAX_VALUE, 0), PLACE);
        due("21: the last place", x.alone(0, 0, 7, 0), 0);
        due("21: no day", new UnitHours().alone(0, 0, 0, 0), BAD);
    }

    private static void bound() {
        UnitHours x = priced("v0;h5;h0;h2;p1,4,2,3,2,1;w0,4,9,1,1,1;", 9, 0, 9, -1, 0, 0);
        due("22: bound", x.bound(0, 0), 7 * 9 - 51);
        due("22: from another place", x.bound(0, 3), -5);
        due("22: row", x.bound(8, 0), BAD);
        due("22: row", x.bound(-1, 0), BAD);
        due("22: missing", x.bound(1, -1), NULL);
        due("22: place", x.bound(0, -1), PLACE);
        due("22: place", x.bound(0, 7), PLACE);
        due("22: the last place", x.bound(0, 6), 0);
        due("22: no day", new UnitHours().bound(8, 0), STATE);
        x.set(0, 0, Integer.MIN_VALUE);
        due("22: beyond an int", x.bound(0, 0), 5L * Integer.MIN_VALUE + 2 * 9 - 25);
    }

    private static void moved() {
        UnitHours x = Check.withDay("v0;h5;p0,9,3,2,1,1;");
        long[] greatest = {0, 9, 9, 9, 10};
        long[] prices = {0, 5, 1, 6, 2};
        for (int n = 0; n < 5; n++) {
            due("23: the greatest bound of " + n, x.moved(n, -1), greatest[n]);
            due("23: price behind " + n, x.moved(n, 0), prices[n]);
        }
        due("23: the most", x.moved(12, -1), 15);
        UnitHours y = Check.withDay("v0;h6;h20;h9;h25;h0;h12;r3,8,2,9,1,1;s5,12,3,7,3,2;q0,10,6,21,1,2;p2,9,4,3,2,3;");
        due("23: the greatest bound", y.moved(6, -1), 68);
        due("23: price", y.moved(6, 3), 2);
        due("23: n", x.moved(-1, 0), BAD);
        due("23: n", x.moved(13, 0), BAD);
        due("23: what", x.moved(0, -2), BAD);
        due("23: what", x.moved(0, 1), BAD);
        due("23: no day", new UnitHours().moved(13, 0), STATE);
    }

    private static void gap() {
        UnitHours x = Check.withDay("v0;h5;p0,9,3,2,1,1;");
        due("24: gap", x.gap(0), 17);
        due("24: gap", x.gap(1), 8);
        due("24: gap", x.gap(4), 7);
        due("24: gap", x.gap(12), 2);
        due("24: n", x.gap(-1), BAD);
        due("24: n", x.gap(13), BAD);
        x.demand(0, 10);
        due("24: none", x.gap(0), NONE);
        due("24: BAD ahead of none", x.gap(13), BAD);
        due("24: no day", new UnitHours().gap(13), STATE);
    }

    private static void more() {
        UnitHours x = Check.withDay(TWO);
        due("25: more", x.more(0), 2);
        due("25: more", x.more(1), 3);
        x.demand(1, 10);
        due("25: none then", x.more(1), NONE);
        due("25: some in the other", x.more(0), 2);
        x.demand(1, 11);
        due("25: none now", x.more(0), NONE);
        due("25: hour", x.more(2), BAD);
        due("25: hour", x.more(-1), BAD);
        due("25: no day", new UnitHours().more(0), BAD);
        UnitHours y = Check.withDay("v0;h60;w0,30,2,0,1,1;w0,30,2,0,1,1;w0,30,5,0,1,1;");
        due("25: beyond 60", y.more(0), 5);
        UnitHours z = Check.withDay("v0;h3;p4,4,1,0,1,1;p3,3,9,0,1,1;");
        due("25: less", z.more(0), 4 - 27);
    }

    private static void wanted() {
        due("26: both", Check.withDay(TWO).wanted(), 3);
        due("26: one", Check.withDay(DAY).wanted(), 1);
        UnitHours x = Check.withDay(TWO);
        x.demand(1, 4);
        due("26: one", x.wanted(), 1);
        x.demand(0, 4);
        due("26: none of them", x.wanted(), 0);
        x.demand(0, 60);
        due("26: none with all", x.wanted(), NONE);
        due("26: no day", new UnitHours().wanted(), STATE);
        due("26: a river can be off", Check.withDay("v0;h3;r0,5,1,0,1,1;p0,5,1,0,1,1;").wanted(), 0);
        due("26: a river that is wanted", Check.withDay("v0;h6;r0,5,1,0,1,1;p0,5,1,0,1,1;").wanted(), 3);
    }

    private static void demandsBy() {
        UnitHours x = Check.withDay("v0;h4;p4,4,1,0,1,1;p2,2,2,0,1,1;");
        long[] many = {x.who(0, 0, 0), x.who(0, 0, 4), x.who(0, 0, 8), x.who(0, 0, 5), x.who(0, 0, 99999)};
        CHECK.dueAll("27: how many", many, 1, 2, 1, 0, 0);
        long[] least = {x.who(1, 0, 0), x.who(1, 0, 4), x.who(1, 0, 8), x.who(1, 0, 5)};
        CHECK.dueAll("27: the least", least, 0, 2, 6, NONE);
        UnitHours y = Check.withDay(TWO);
        int[] costs = {NONE, 21, 23, 25, 27, 31, 33, 35, 38, 41, 44, NONE};
        for (int d = 0; d < costs.length; d++) {
            if (costs[d] >= 0) {
                due("27: how many for " + costs[d], y.who(0, 1, costs[d]), 1);
                due("27: the least for " + costs[d], y.who(1, 1, costs[d]), d);
            }
        }
        due("27: none", y.who(0, 1, 45), 0);
        UnitHours z = Check.withDay("v0;h4;w0,30,1,0,1,1;w0,30,1,0,1,1;w0,30,1,0,1,1;");
        due("27: up to 60", z.who(1, 0, 60), 60);
        due("27: up to 60", z.who(0, 0, 60), 1);
        due("27: no further", z.who(1, 0, 61), NONE);
        due("27: no further", z.who(0, 0, 61), 0);
        due("27: which", y.who(-1, 0, 0), BAD);
        due("27: which", y.who(4, 0, 0), BAD);
        due("27: hour", y.who(0, 2, 0), BAD);
        due("27: hour", y.who(1, -1, 0), BAD);
        due("27: v", y.who(0, 0, -1), BAD);
        due("27: v", y.who(0, 0, 100000), BAD);
        due("27: no day", new UnitHours().who(4, 0, 0), STATE);
    }

    private static void demandsOfAnyHour() {
        UnitHours x = Check.withDay(TWO);
        int[] costs = {28, 30, 32, 34, 38, 40, 42, 45, 48, 51};
        for (int d = 1; d <= costs.length; d++) {
            due("27: of hour 0, the least for " + costs[d - 1], x.who(1, 0, costs[d - 1]), d);
            due("27: of hour 0, how many for " + costs[d - 1], x.who(0, 0, costs[d - 1]), 1);
        }
        UnitHours y = Check.withDay("v0;h5;h5;h5;p1,9,2,3,2,2;");
        long[] off = {x.who(0, 0, 23), y.who(1, 0, 23), y.who(1, 1, 23), y.who(1, 2, 23)};
        CHECK.dueAll("27: by being off", off, 0, 0, NONE, 0);
        long[] on = {y.who(1, 0, 25), y.who(1, 1, 25), y.who(1, 2, 25), y.who(1, 1, 41), y.who(1, 1, 43)};
        CHECK.dueAll("27: by being on", on, 1, 1, 1, 9, NONE);
        y.demand(2, 60);
        CHECK.dueAll("27: another hour fails", new long[] {y.who(0, 0, 25), y.who(1, 1, 25), y.who(1, 2, 25)},
                0, NONE, 1);
    }

    /** The best plan of all is to do nothing, and that is a plan. */
    private static void whatCostsNothing() {
        UnitHours x = Check.withDay("v0;h0;p5,9,1,0,1,1;");
        x.row(0, 0, 1);
        due("10: layBest", x.layBest(), 0);
        due("20: best", x.best(0), 0);
        due("24: gap", x.gap(0), 0);
        due("25: more", x.more(0), NONE);
        due("26: wanted", x.wanted(), 0);
        due("27: demands", x.who(1, 0, 0), 0);
        due("27: kinds", x.who(2, 0, 0), 0b111110);
        due("28: fits", x.fits(0, 0, 1), 0b011110);
        due("29: drawn", x.drawn(1, DRAWS_0, 0), 1);
        due("29: drawn", x.drawn(1, DRAWS_0, 1), 0);
        x.demand(0, 5);
        due("25: more", x.more(0), 1);
        x.become(0, 4);
        x.demand(0, 0);
        due("25: more than nothing", x.more(0), 1);
    }

    /** What is foretold is told of the day as it is, whatever was asked before. */
    private static void afterChanges() {
        UnitHours x = Check.withDay("v0;h4;p4,4,1,9,1,1;");
        x.row(0, 0, 1);
        x.set(0, 0, 1);
        due("20: best", x.best(-1), 13);
        x.price(0, 2);
        due("27: kinds", x.who(2, 0, 17), 0b1010);
        x.price(0, 3);
        due("27: prices", x.who(3, 0, 17), 1 << 2);
        x.demand(0, 0);
        due("28: fits", x.fits(0, 0, 1), 0b100000);
        x.image(0);
        due("20: best", x.best(-1), 0);
        x.demand(0, 4);
        due("20: best", x.best(-1), 21);
        x.undo();
        due("20: undone", x.best(-1), 0);
        x.demand(0, 4);
        due("20: best", x.best(-1), 21);
        x.restore(0);
        due("20: restored", x.best(-1), 0);
        x.run(0, 1);
        due("25: more", x.more(0), NONE);
        Check.feedText(x, "v0;h3;w4,4,1,9,1,1;w4,4,1,9,1,1;");
        x.day();
        due("20: another day", x.best(-1), 3);
        due("7: all units are off", x.hour(0, 1), 0);
    }

    private static void kindsAndPricesBy() {
        UnitHours x = Check.withDay("v0;h4;p4,4,1,9,1,1;");
        long[] kinds = {x.who(2, 0, 13), x.who(2, 0, 8), x.who(2, 0, 4), x.who(2, 0, 0)};
        CHECK.dueAll("27: kinds", kinds, 0b1010, 0b100, 0b110000, 0);
        long[] prices = {x.who(3, 0, 13), x.who(3, 0, 45), x.who(3, 0, 14)};
        CHECK.dueAll("27: prices", prices, 1 << 1, 1 << 9, 0);
        due("27: a unit, not an hour", x.who(2, 1, 0), BAD);
        due("27: unit", x.who(3, -1, 0), BAD);
        due("27: the kind stays", x.kind(0), 1);
        due("27: the price stays", x.unit(0, 2), 1);
        UnitHours y = Check.withDay("v0;h4;p4,4,1,0,1,1;p4,4,3,0,1,1;");
        due("27: prices that do not matter", y.who(3, 1, 4), 0b1111111110);
        due("27: a unit beyond the hours", y.who(2, 1, 4), 0b111110);
    }

    private static void fits() {
        UnitHours x = Check.withDay("v0;h4;h0;p4,4,1,9,1,1;");
        x.row(0, 0, 2);
        x.row(1, 2, 3);
        x.set(0, 0, 1);
        x.set(1, 0, 1);
        x.set(1, 1, 1);
        due("28: off in hour 1", x.fits(0, 0, 2), 0b11110);
        due("28: on in hour 1", x.fits(0, 1, 2), 0b100000);
        due("28: hour 0 alone", x.fits(0, 1, 1), 0b111110);
        x.set(1, 0, 17);
        due("28: more units than there are", x.fits(0, 1, 1), 0);
        x.set(1, 0, 0);
        due("28: off in hour 0", x.fits(0, 1, 1), 0);
        due("28: n", x.fits(0, 0, 0), BAD);
        due("28: n", x.fits(0, 0, 3), BAD);
        due("28: unit", x.fits(1, 0, 1), BAD);
        due("28: unit", x.fits(-1, 0, 1), BAD);
        due("28: row", x.fits(0, 8, 1), BAD);
        due("28: row", x.fits(0, -1, 1), BAD);
        due("28: missing", x.fits(0, 2, 1), NULL);
        x.row(0, 0, 1);
        due("28: place", x.fits(0, 0, 2), PLACE);
        due("28: no day", new UnitHours().fits(0, 0, 1), BAD);
        x.demand(0, 60);
        x.row(0, 0, 2);
        due("28: no best", x.fits(0, 0, 2), 0);
    }

    private static void drawn() {
        UnitHours x = Check.withDay("v0;h0;w0,30,1,0,1,1;w0,30,1,0,1,1;");
        due("29: none", x.drawn(0, 1, 0), 0);
        due("29: none", x.drawn(0, 1, 1), 0);
        int[] together = {0, 10, 33, 62, 80, 88, 92, 113, 152};
        for (int n = 1; n <= 8; n++) {
            due("29: how often in " + n, x.drawn(n, 1, 0), n);
            due("29: cost of " + n, x.drawn(n, 1, 1), together[n]);
        }
        UnitHours y = Check.withDay("v0;h7;w0,20,1,0,1,1;");
        due("29: how often", y.drawn(8, 1, 0), 4);
        due("29: cost", y.drawn(8, 1, 1), 10 + 18 + 8 + 4);
        UnitHours z = Check.withDay("v0;h0;h1;w0,20,1,0,1,1;");
        due("29: demands stay for the draws behind", z.drawn(8, 1, 0), 1);
        due("29: demands stay for the draws behind", z.drawn(8, 1, 1), 10);
        due("29: demands are as they were", z.count(3), 1);
        due("29: n", x.drawn(-1, 1, 0), BAD);
        due("29: n", x.drawn(9, 1, 0), BAD);
        due("29: seed", x.drawn(1, 0, 0), BAD);
        due("29: seed", x.drawn(1, 1000000, 0), BAD);
        due("29: the last seed", x.drawn(1, 999999, 0), 1);
        due("29: what", x.drawn(1, 1, -1), BAD);
        due("29: what", x.drawn(1, 1, 2), BAD);
        due("29: no day", new UnitHours().drawn(9, 1, 0), STATE);
    }

    private static void images() {
        UnitHours x = Check.withDay(TWO);
        due("31: none was kept", x.restore(0), STATE);
        x.run(0, 1);
        due("30: image", x.image(0), 1);
        due("30: acts stay", x.count(4), 1);
        x.demand(0, 9);
        x.price(0, 9);
        x.become(0, 5);
        x.reserve(7);
        x.layBest();
        due("30: image", x.image(1), 1);
        due("31: restore", x.restore(0), 1);
        due("31: no acts", x.count(4), 0);
        due("31: no undo", x.undo(), STATE);
        CHECK.dueAll("31: as it was", new long[] {x.unit(0, 6), x.unit(1, 6), x.hour(0, 0), x.unit(0, 2), x.kind(0),
            x.plan(4), x.best(-1)}, 1, 0, 5, 3, 1, 1, 38);
        due("31: the other", x.restore(1), 1);
        CHECK.dueAll("31: as it was", new long[] {x.hour(0, 0), x.unit(0, 2), x.kind(0), x.plan(4)}, 9, 9, 5, 7);
        Check.feedText(x, "v0;h1;w0,1,1,1,1,1;");
        x.day();
        due("31: behind another day", x.restore(0), 1);
        due("31: units", x.count(1), 2);
        x.run(1, 3);
        due("31: once more", x.restore(0), 1);
        due("31: as it was", x.unit(1, 6), 0);
        due("30: k", x.image(-1), BAD);
        due("30: k", x.image(2), BAD);
        due("31: k", x.restore(-1), BAD);
        due("31: k", x.restore(2), BAD);
        due("30: no day", new UnitHours().image(0), STATE);
        due("30: BAD ahead of STATE", new UnitHours().image(2), BAD);
    }

    private static void nothingChanges() {
        UnitHours x = priced(DAY, 3, 9, 4, 11, 0);
        x.run(0, 14);
        long[] before = looks(x);
        x.best(-1);
        x.alone(0, 0, 0, -2);
        x.bound(0, 0);
        x.moved(12, -1);
        x.gap(12);
        x.more(2);
        x.wanted();
        for (int which = 0; which < 4; which++) {
            x.who(which, 1, 203);
        }
        x.fits(1, 0, 5);
        x.drawn(8, 77, 1);
        x.image(0);
        CHECK.dueAll("20 to 30: nothing changes", looks(x), before);
    }

    private static long[] looks(UnitHours x) {
        long[] seen = new long[4 * 10 + 6 * 5 + 6];
        int n = 0;
        for (int u = 0; u < 4; u++) {
            for (int w = 0; w < 9; w++) {
                seen[n++] = x.unit(u, w);
            }
            seen[n++] = x.kind(u);
        }
        for (int h = 0; h < 6; h++) {
            for (int w = 0; w < 5; w++) {
                seen[n++] = x.hour(h, w);
            }
        }
        for (int w = 0; w < 6; w++) {
            seen[n++] = x.count(w);
        }
        return seen;
    }
}
