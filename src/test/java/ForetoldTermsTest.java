/** 'Terms', parts 3 and 4, sentence by sentence, at their edges: what is foretold, and asks. */
public final class ForetoldTermsTest {
    private static final int NONE = Sentences.NONE, KIND = Sentences.KIND;
    private static final int LEAST = Sentences.LEAST, MOST = Sentences.MOST;
    private static final String SORTS = "pqswr";

    public static void main(String[] args) {
        Sentences.runAll(ForetoldTermsTest.class, "t3", "t4");
    }

    private static void due(String call, long got, long want) {
        Sentences.due(call, got, want);
    }

    // ---- alone

    /** Unit 0 of a day with as many hours as there are prices, all without demand. */
    private static void alone(String unit, int[] prices, long loss, long on, long... given) {
        UnitHours x = Sentences.priced("v0;" + "h0;".repeat(prices.length) + unit, prices);
        due("loss of " + unit, x.alone(0, 0, 0, -2), loss);
        due("hours of " + unit, x.alone(0, 0, 0, -1), on);
        for (int h = 0; h < given.length; h++) {
            due("given in " + h + " by " + unit, x.alone(0, 0, 0, h), given[h]);
        }
        due("bound of " + unit, x.bound(0, 0), loss);
    }

    private static void t3_aPriceThatIsJustThatOfTheHour() {
        alone("r2,6,4,0,1,1;", new int[] {4}, 0, 1, 0);
        alone("r2,6,4,0,1,1;", new int[] {5}, -6, 1, 6);
        alone("r2,6,4,0,1,1;", new int[] {3}, 0, 1, 0);
        alone("p2,6,4,0,3,1;", new int[] {9, 4, 9}, -60, 7, 6, 2, 6);
        alone("p2,6,4,0,3,1;", new int[] {9, 5, 9}, -66, 7, 6, 6, 6);
        alone("p2,6,4,0,3,1;", new int[] {9, 3, 9}, -58, 7, 6, 2, 6);
        alone("q2,6,9,0,1,1;", new int[] {9}, 0, 0, 0);
        alone("q2,6,9,0,1,1;", new int[] {10}, -6, 1, 6);
        alone("w2,6,1,0,1,1;", new int[] {1}, 0, 0, 0);
        alone("w2,6,1,0,1,1;", new int[] {2}, -6, 1, 6);
    }

    private static void t3_pricesBelow0() {
        alone("p2,6,4,0,3,1;", new int[] {9, -10, 9}, -32, 7, 6, 2, 6);
        alone("p2,6,4,0,3,1;", new int[] {9, -11, 9}, -30, 4, 0, 0, 6);
        alone("p2,6,4,0,3,1;", new int[] {9, -12, 9}, -30, 4, 0, 0, 6);
        alone("p2,6,4,0,1,1;", new int[] {-1}, 0, 0, 0);
        alone("w2,6,4,0,3,1;", new int[] {9, -12, 9}, -60, 7, 6, 0, 6);
        alone("r2,6,4,0,1,1;", new int[] {-1, LEAST, -1}, 0, 7, 0, 0, 0);
    }

    private static void t3_pricesThatAreVeryLarge() {
        alone("r0,30,9,0,1,1;", new int[] {MOST}, 30 * (9L - MOST), 1, 30);
        alone("p0,30,9,0,1,1;", new int[] {LEAST}, 0, 0, 0);
        int[] most = {MOST, MOST, MOST, MOST, MOST, MOST};
        alone("p20,30,9,40,3,3;", most, 40 + 180 * (9L - MOST), 63, 30, 30, 30, 30, 30, 30);
        alone("s20,30,9,40,3,3;", most, 40 + 170 * (9L - MOST), 63, 20, 30, 30, 30, 30, 30);
        alone("p20,30,1,0,3,1;", new int[] {MOST, LEAST, MOST}, 60 * (1L - MOST) + 20 * (1L - LEAST), 7, 30, 20, 30);
        alone("p20,30,1,0,1,1;", new int[] {LEAST, MOST, LEAST}, 30 * (1L - MOST), 2, 0, 30, 0);
        int[] least = {LEAST, LEAST, LEAST, LEAST, LEAST, LEAST};
        alone("p20,30,9,40,3,3;", least, 0, 0, 0, 0, 0, 0, 0, 0);
    }

    private static void t3_pricesOfEachLane() {
        for (int lane = 0; lane < 3; lane++) {
            UnitHours x = Sentences.day("v0;h1;r0,10,1,0,1,1;");
            x.row(0, lane, 1);
            long price = x.set(0, 0, 65536 + 200);
            due("price", price, new int[] {-56, 200, 65736}[lane]);
            due("loss", x.alone(0, 0, 0, -2), price > 1 ? 10 * (1 - price) : 0);
            due("bound", x.bound(0, 0), price > 1 ? price + 10 * (1 - price) : price);
        }
    }

    private static void t3_ofSeveralHoursTheLeast() {
        alone("w0,6,4,0,1,1;", new int[] {4, 4, 4}, 0, 0);
        alone("p0,6,4,0,1,1;", new int[] {9, 4, 4}, -30, 1);
        alone("p0,6,4,0,1,1;", new int[] {4, 9, 4}, -30, 2);
        alone("p0,6,4,0,1,1;", new int[] {4, 4, 9}, -30, 4);
        alone("p0,6,4,0,2,1;", new int[] {9, 4, 4}, -30, 3);
        alone("p0,6,4,0,2,1;", new int[] {4, 9, 4}, -30, 3);
        alone("p0,6,4,0,2,1;", new int[] {4, 9, 4, 4}, -30, 3);
        alone("p0,6,4,0,3,1;", new int[] {4, 4, 9, 4}, -30, 7);
        alone("p0,5,4,5,1,1;", new int[] {5}, 0, 0);
        alone("p0,5,4,5,1,1;", new int[] {6}, -5, 1);
        alone("p0,5,4,4,1,1;", new int[] {5}, -1, 1);
        // one start more costs what an hour at the floor does
        alone("p1,5,4,2,1,1;", new int[] {9, 2, 9}, -46, 5);
        alone("p1,5,4,3,1,1;", new int[] {9, 2, 9}, -45, 7);
    }

    private static void t3_aloneKeepsItsHours() {
        alone("p1,5,4,0,1,1;", new int[] {9, 0, 9}, -50, 5);
        alone("p1,5,4,0,1,2;", new int[] {9, 0, 9}, -46, 7);
        alone("p1,5,4,0,1,2;", new int[] {9, 0, 0, 9}, -50, 9);
        alone("p1,5,4,0,1,3;", new int[] {9, 0, 0, 9}, -42, 15);
        alone("p1,5,4,0,2,1;", new int[] {9, 0, 0, 0}, -21, 3);
        alone("p1,5,4,0,3,1;", new int[] {9, 0, 0, 0}, -17, 7);
        alone("p1,5,4,0,3,1;", new int[] {0, 0, 0, 9}, -25, 8);
        alone("p1,5,4,0,3,3;", new int[] {9}, -25, 1);
        alone("r1,5,4,0,1,1;", new int[] {9, 0, 9}, -50, 7, 5, 0, 5);
    }

    private static void t3_lossOfEachKind() {
        int[] prices = {9, 9};
        alone("p1,5,4,7,1,1;", prices, -50 + 7, 3, 5, 5);
        alone("q1,5,4,7,1,1;", prices, -50 + 3, 3, 5, 5);
        alone("s1,5,4,7,1,1;", prices, -30 + 7, 3, 1, 5);
        alone("w1,5,4,7,1,1;", prices, -50, 3, 5, 5);
        alone("r1,5,4,7,1,1;", prices, -50, 3, 5, 5);
    }

    private static void t3_boundIsDemandsTimesPricesAndAllLosses() {
        UnitHours x = Sentences.priced("v9;h5;h60;p1,5,4,7,1,1;w0,4,1,9,1,1;", 9, 2, -1);
        due("bound", x.bound(0, 0), 45 + 120 + (5 * -5 + 7) + (4 * -8 + 4 * -1));
        due("bound", x.bound(0, 1), 10 - 60 + 0 - 4);
        x.set(0, 0, MOST);
        x.set(0, 1, MOST);
        due("very large", x.bound(0, 0), 65L * MOST + 7 + 10 * (4L - MOST) + 8 * (1L - MOST));
        x.set(0, 0, LEAST);
        x.set(0, 1, LEAST);
        due("very small", x.bound(0, 0), 65L * LEAST);
    }

    private static void t3_boundIsNoMoreThanBest() {
        int[][] prices = {{0, 0, 0, 0, 0, 0}, {1, 2, 3, 4, 5, 6}, {9, 9, 9, 9, 9, 9}, {3, 4, 5, 3, 1, 1},
            {-5, 60, -5, 60, -5, 60}, {3, 3, 4, 3, 1, 1}, {MOST, LEAST, MOST, LEAST, 0, 7}};
        for (int[] p : prices) {
            UnitHours x = Sentences.priced(Sentences.FOUR, p);
            Sentences.holds("bound " + x.bound(0, 0) + " of " + x.best(-1), x.bound(0, 0) <= x.best(-1));
        }
    }

    // ---- moved

    private static void t3_movedFrom0To12Times() {
        UnitHours x = Sentences.day("v0;h5;p0,9,3,2,1,1;");
        int[] price = {0, 5, 1, 6, 2, 7, 3, 8, 4, 0, 5, 1, 6};
        int[] bound = {0, 9, 9, 9, 10, 10, 15, 15, 15, 15, 15, 15, 15};
        for (int n = 0; n <= 12; n++) {
            due("price behind " + n, x.moved(n, 0), price[n]);
            due("bound behind " + n, x.moved(n, -1), bound[n]);
            due("gap behind " + n, x.gap(n), 17 - bound[n]);
        }
    }

    private static void t3_pricesAre0AtLeastAndTheFirstBoundCounts() {
        UnitHours x = Sentences.day("v0;h2;w0,30,1,0,1,1;");
        for (int n = 0; n <= 12; n++) {
            due("price behind " + n, x.moved(n, 0), n % 2 == 0 ? 0 : 2);
            due("bound behind " + n, x.moved(n, -1), 0);
            due("gap behind " + n, x.gap(n), 2);
        }
        UnitHours y = Sentences.day("v0;h4;p0,9,3,2,1,1;");
        due("4", y.moved(1, 0), 4);
        due("0, not -1", y.moved(2, 0), 0);
        due("4 again", y.moved(3, 0), 4);
    }

    private static void t3_eachHourIsMovedByItsOwn() {
        UnitHours x = Sentences.day("v0;h5;h0;h60;w0,9,3,2,1,1;");
        long[][] due = {{0, 0, 0}, {5, 0, 60}, {1, 0, 111}, {6, 0, 162}};
        for (int n = 0; n < 4; n++) {
            for (int h = 0; h < 3; h++) {
                due("price of " + h + " behind " + n, x.moved(n, h), due[n][h]);
            }
        }
        due("bound behind 2", x.moved(2, -1), 5 + 60 * 111 + 9 * (3 - 111));
    }

    private static void t3_theMostThatPricesCanMove() {
        UnitHours x = Sentences.day("v0;h60;h60;h60;h60;h60;h60;p0,0,9,40,3,3;");
        for (int h = 0; h < 6; h++) {
            due("price", x.moved(12, h), 720);
        }
        due("bound", x.moved(12, -1), 6 * 60 * 720);
        due("no best", x.gap(12), NONE);
    }

    private static void t3_movedByDemandWithoutReserve() {
        UnitHours x = Sentences.day("v20;h7;r0,30,9,0,1,1;");
        due("price", x.moved(1, 0), 7);
        due("price", x.moved(2, 0), 14);
        due("bound", x.moved(1, -1), 49);
    }

    // ---- more, wanted

    private static void t3_moreOfADemandBeyond60() {
        due("61", Sentences.day("v0;h60;w0,30,2,0,1,1;w0,30,2,0,1,1;w0,30,5,0,1,1;").more(0), 5);
        due("61 is just met", Sentences.day("v0;h60;w0,30,1,0,1,1;w0,30,1,0,1,1;w0,1,9,0,1,1;").more(0), 9);
        due("61 is not met", Sentences.day("v0;h60;w0,30,1,0,1,1;w0,30,1,0,1,1;").more(0), NONE);
        due("61 and reserve", Sentences.day("v1;h60;w0,30,1,0,1,1;w0,30,1,0,1,1;w0,1,9,0,1,1;").more(0), NONE);
        UnitHours x = Sentences.day("v0;h60;w0,30,2,0,1,1;w0,30,2,0,1,1;w0,30,5,0,1,1;");
        x.more(0);
        due("it stays", x.hour(0, 0), 60);
        due("best stays", x.best(-1), 120);
    }

    private static void t3_moreIsNoneThenOrNow() {
        due("then", Sentences.day("v0;h4;p4,4,1,0,1,1;").more(0), NONE);
        due("now", Sentences.day("v0;h3;p4,4,1,0,1,1;").more(0), NONE);
        due("both", Sentences.day("v0;h2;p4,4,1,0,1,1;").more(0), NONE);
        UnitHours x = Sentences.day("v0;h3;h4;w0,9,1,0,1,1;");
        due("neither", x.more(0), 1);
        x.demand(1, 60);
        due("another hour", x.more(0), NONE);
        due("another hour", x.more(1), NONE);
    }

    private static void t3_moreMayBe0AndLess() {
        due("0", Sentences.day("v0;h3;p4,4,3,0,1,1;p3,3,4,0,1,1;").more(0), 0);
        due("less", Sentences.day("v0;h3;p4,4,1,0,1,1;p3,3,9,0,1,1;").more(0), -23);
        due("a start more", Sentences.day("v0;h3;p0,3,1,0,1,1;p0,3,1,40,1,1;").more(0), 41);
    }

    private static void t3_moreThanNothing() {
        UnitHours x = Sentences.day("v0;h0;w0,9,4,0,1,1;");
        due("best costs nothing", x.best(-1), 0);
        due("more", x.more(0), 4);
        due("and none then", Sentences.day("v0;h0;p2,9,4,0,1,1;").more(0), NONE);
    }

    private static void t3_aRiverIsOffInWanted() {
        due("it can be", Sentences.day("v0;h5;r0,5,1,0,1,1;p0,5,1,0,1,1;").wanted(), 0);
        due("it is wanted", Sentences.day("v0;h6;r0,5,1,0,1,1;p0,5,1,0,1,1;").wanted(), 3);
        due("it alone", Sentences.day("v0;h5;r0,5,1,0,1,1;p0,4,1,0,1,1;").wanted(), 1);
        due("two rivers", Sentences.day("v0;h5;h5;r0,5,1,0,1,1;r0,5,1,0,1,1;").wanted(), 0);
        due("two rivers, both wanted", Sentences.day("v0;h5;h6;r0,5,1,0,3,3;r0,5,1,0,3,3;").wanted(), 3);
        due("nothing is wanted", Sentences.day("v0;h0;r0,5,1,0,1,1;").wanted(), 0);
        due("reserve", Sentences.day("v1;h0;r0,5,1,0,1,1;").wanted(), 1);
    }

    private static void t3_wantedUnits() {
        due("all four", Sentences.day("v0;h40;" + "p0,10,1,0,1,1;".repeat(4)).wanted(), 15);
        due("none of four", Sentences.day("v0;h30;" + "p0,10,1,0,1,1;".repeat(4)).wanted(), 0);
        due("the last", Sentences.day("v0;h10;" + "p0,3,1,0,1,1;".repeat(3) + "p0,10,9,40,1,1;").wanted(), 8);
        due("for one hour alone", Sentences.day("v0;h1;h9;h1;w0,1,1,0,1,1;p1,8,1,0,3,1;w0,1,1,0,1,1;").wanted(), 2);
        due("none with all", Sentences.day("v0;h41;" + "p0,10,1,0,1,1;".repeat(4)).wanted(), NONE);
        due("none with all", Sentences.day("v1;h0;p1,5,1,0,1,1;").wanted(), NONE);
    }

    // ---- demands, kinds, prices by what is best

    private static void t3_demands0To60() {
        UnitHours x = Sentences.day("v0;h7;w0,30,1,0,1,1;w0,30,1,0,1,1;w0,30,1,0,1,1;");
        for (int v : new int[] {0, 1, 7, 59, 60}) {
            due("how many for " + v, x.who(0, 0, v), 1);
            due("the least for " + v, x.who(1, 0, v), v);
        }
        for (int v : new int[] {61, 62, 90, 99999}) {
            due("how many for " + v, x.who(0, 0, v), 0);
            due("the least for " + v, x.who(1, 0, v), NONE);
        }
    }

    private static void t3_severalDemands() {
        UnitHours x = Sentences.day("v0;h4;p4,4,1,0,1,1;p2,2,2,0,1,1;");
        due("two for 4", x.who(0, 0, 4), 2);
        due("the least for 4", x.who(1, 0, 4), 2);
        due("one for 8", x.who(0, 0, 8), 1);
        due("the least for 8", x.who(1, 0, 8), 6);
        due("none for 5", x.who(0, 0, 5), 0);
        due("none for 5", x.who(1, 0, 5), NONE);
        x.demand(0, 60);
        due("whatever it is now", x.who(0, 0, 4), 2);
    }

    private static void t3_demandsByWhichNoneIsOn() {
        UnitHours x = Sentences.day("v0;h5;p1,9,2,3,1,1;");
        due("0 alone", x.who(0, 0, 0), 1);
        due("0", x.who(1, 0, 0), 0);
        due("1", x.who(1, 0, 5), 1);
        due("9", x.who(1, 0, 21), 9);
        due("none beyond", x.who(1, 0, 23), NONE);
    }

    /** The other hours bind what may be done in this one, those ahead of it and those behind. */
    private static void t3_demandsOfAnHourAmongOthers() {
        UnitHours x = Sentences.day("v0;h5;h5;h5;p1,9,2,3,2,2;");
        Sentences.dueAll("being off costs 23", new long[] {x.who(1, 0, 23), x.who(1, 1, 23), x.who(1, 2, 23)}, 0, NONE, 0);
        Sentences.dueAll("a demand of 1 costs 25", new long[] {x.who(1, 0, 25), x.who(1, 1, 25), x.who(1, 2, 25)}, 1, 1, 1);
        Sentences.dueAll("a demand of 9 costs 41", new long[] {x.who(1, 0, 41), x.who(1, 1, 41), x.who(1, 2, 41)}, 9, 9, 9);
        Sentences.dueAll("none costs 43", new long[] {x.who(0, 0, 43), x.who(0, 1, 43), x.who(0, 2, 43)}, 0, 0, 0);
        x.demand(2, 60);
        Sentences.dueAll("another hour fails", new long[] {x.who(0, 0, 25), x.who(0, 1, 25), x.who(0, 2, 25)}, 0, 0, 1);
    }

    /** Of the plans by which an hour is met it is the cheapest that counts. */
    private static void t3_demandsByTheCheapestPlan() {
        UnitHours x = Sentences.day("v0;h5;h8;p2,6,3,4,1,1;q1,5,2,7,1,1;");
        int[] first = {NONE, 28, 30, 32, 34, 36, 40, 42, 45, 48, 51, 54};
        for (int d = 1; d <= 11; d++) {
            UnitHours y = Sentences.day("v0;h" + d + ";h8;p2,6,3,4,1,1;q1,5,2,7,1,1;");
            int cost = y.best(-1);
            due("the least for " + cost, x.who(1, 0, cost), d);
            due("how many for " + cost, x.who(0, 0, cost), 1);
            due("by hand: " + d, cost, first[d]);
        }
    }

    /**
     * The plain one is on in all hours for 50 and 7, as long as this one needs 10 or more; below that it must be
     * off in it, and then in one or two beside it too: water gives there, and is dear.
     */
    private static void t3_demandsOfEachOfSixHours() {
        int[] off = {57, 97, 137, 137, 97, 57};
        for (int h = 0; h < 6; h++) {
            UnitHours x = Sentences.day("v0;h10;h10;h10;h10;h10;h10;p10,20,1,7,3,3;w0,10,5,0,1,2;");
            int[] cost = new int[31];
            for (int d = 0; d <= 30; d++) {
                cost[d] = d < 10 ? off[h] + 5 * d : d <= 20 ? 57 + d : 77 + 5 * (d - 20);
            }
            for (int c : cost) {
                int many = 0, least = NONE;
                for (int d = 30; d >= 0; d--) {
                    many += cost[d] == c ? 1 : 0;
                    least = cost[d] == c ? d : least;
                }
                due("how many of hour " + h + " for " + c, x.who(0, h, c), many);
                due("the least of hour " + h + " for " + c, x.who(1, h, c), least);
            }
            due("none of hour " + h, x.who(0, h, 128), 0);
            due("none of hour " + h, x.who(1, h, 56), NONE);
        }
    }

    /** Six hours and four units whose least hours are the longest: no search is wider. */
    private static void t3_demandsOfTheWidestDay() {
        UnitHours x = Sentences.day("v0;h40;h40;h40;h30;h20;h10;"
                + "p10,10,1,0,3,3;q10,10,2,0,3,3;s10,10,3,0,3,3;p10,10,4,0,3,3;");
        int[][] due = {{3, 440, 40}, {3, 400, 30}, {3, 370, 20}, {3, 350, NONE}, {5, 420, 20}, {5, 400, 10}, {5, 390, 0},
            {5, 450, NONE}, {0, 400, 40}, {0, 370, 30}, {1, 400, 40}, {1, 360, NONE}, {4, 400, 20}, {4, 430, 30}};
        for (int[] d : due) {
            due("the least of hour " + d[0] + " for " + d[1], x.who(1, d[0], d[1]), d[2]);
            due("how many of hour " + d[0] + " for " + d[1], x.who(0, d[0], d[1]), d[2] == NONE ? 0 : 1);
        }
    }

    private static void t3_kindsByWhichBestCosts() {
        UnitHours x = Sentences.day("v0;h5;p4,8,1,9,1,1;");
        due("plain", x.who(2, 0, 14), 0b10);
        due("quick", x.who(2, 0, 9), 0b100);
        due("waters", x.who(2, 0, 5), 0b110000);
        due("none", x.who(2, 0, 0), 0);
        x.demand(0, 4);
        due("plain, slow", x.who(2, 0, 13), 0b1010);
        x.demand(0, 0);
        due("all", x.who(2, 0, 0), 0b111110);
        x.become(0, 3);
        due("whatever it is now", x.who(2, 0, 0), 0b111110);
        x.demand(0, 60);
        due("there is no best", x.who(2, 0, 0), 0);
    }

    private static void t3_pricesByWhichBestCosts() {
        UnitHours x = Sentences.day("v0;h1;w0,1,4,0,1,1;");
        for (int p = 0; p <= 10; p++) {
            due("for " + p, x.who(3, 0, p), p >= 1 && p <= 9 ? 1 << p : 0);
        }
        x.demand(0, 0);
        due("all", x.who(3, 0, 0), 0b1111111110);
        x.demand(0, 2);
        due("there is no best", x.who(3, 0, 0), 0);
        UnitHours y = Sentences.day("v0;h1;w0,1,4,0,1,1;w0,1,5,0,1,1;");
        due("from the other's on", y.who(3, 0, 5), 0b1111100000);
    }

    private static void t3_aRowTellsWhichUnitsAreOn() {
        UnitHours x = Sentences.day("v0;h4;h0;p4,4,1,9,1,1;");
        x.row(0, 0, 2);
        x.set(0, 0, 1);
        due("(1, 0)", x.fits(0, 0, 2), 0b11110);
        due("(1)", x.fits(0, 0, 1), 0b111110);
        x.set(0, 1, 1);
        due("(1, 1)", x.fits(0, 0, 2), 0b100000);
        x.set(0, 1, 2);
        due("(1, 2)", x.fits(0, 0, 2), 0);
        due("(1), whatever is behind", x.fits(0, 0, 1), 0b111110);
        for (int wild : new int[] {0, 2, 16, 17, 255, 257 + 16, -1, LEAST, MOST}) {
            x.set(0, 0, wild);
            due("(" + wild + ")", x.fits(0, 0, 1), 0);
        }
        x.row(1, 2, 1);
        for (int wild : new int[] {257, 65537, LEAST + 1, 1 << 24 | 1}) {
            x.set(1, 0, wild);
            due("(" + wild + ") of ints", x.fits(0, 1, 1), 0);
        }
    }

    private static void t3_aRowThatTellsThatNoneIsOn() {
        UnitHours x = Sentences.day("v0;h0;h0;p4,8,1,9,1,1;");
        x.row(0, 0, 2);
        due("all but rivers", x.fits(0, 0, 2), 0b011110);
        due("all but rivers", x.fits(0, 0, 1), 0b011110);
        x.set(0, 1, 1);
        due("none", x.fits(0, 0, 2), 0);
    }

    private static void t3_aRowOfNoBest() {
        UnitHours x = Sentences.day("v0;h5;p4,8,1,9,1,1;");
        x.row(0, 0, 1);
        due("none is on", x.fits(0, 0, 1), 0);
        x.set(0, 0, 1);
        due("a slow one has no best", x.fits(0, 0, 1), 0b110110);
        x.demand(0, 60);
        due("there is no best", x.fits(0, 0, 1), 0);
        x.set(0, 0, 0);
        due("there is no best", x.fits(0, 0, 1), 0);
    }

    private static void t3_noRowIsAsNoBest() {
        UnitHours x = Sentences.day("v20;h60;p0,1,1,0,1,1;p0,1,1,0,1,1;p0,1,1,0,1,1;p0,1,1,0,1,1;");
        x.row(0, 0, 1);
        for (int v = -16; v < 16; v++) {
            x.set(0, 0, v);
            due("fits " + v, x.fits(v & 3, 0, 1), 0);
        }
    }

    // ---- drawn

    private static void drawn(String text, int seed, int n, long often, long cost) {
        UnitHours x = Sentences.day(text);
        due("how often by " + seed + " in " + n, x.drawn(n, seed, 0), often);
        due("cost by " + seed + " in " + n, x.drawn(n, seed, 1), cost);
        due("demands stay", x.count(3), Sentences.day(text).count(3));
    }

    private static void t3_drawnFrom0To8TimesByTheLeastSeed() {
        long[] one = {0, 10, 33, 62, 80, 88, 92, 113, 152};
        long[] six = {0, 10, 33, 85, 155, 233, 297, 382, 502};
        for (int n = 0; n <= 8; n++) {
            drawn("v0;h0;w0,30,1,0,1,1;w0,30,1,0,1,1;", 1, n, n, one[n]);
            drawn("v0;h0;h0;h0;h0;h0;h0;w0,30,1,0,1,1;w0,30,1,0,1,1;", 1, n, n, six[n]);
        }
    }

    private static void t3_drawnFrom0To8TimesByTheGreatestSeed() {
        long[] one = {0, 34, 36, 59, 73, 74, 90, 96, 133};
        long[] six = {0, 34, 70, 129, 179, 228, 293, 330, 388};
        for (int n = 0; n <= 8; n++) {
            drawn("v0;h0;w0,30,1,0,1,1;w0,30,1,0,1,1;", 999999, n, n, one[n]);
            drawn("v0;h0;h0;h0;h0;h0;h0;w0,30,1,0,1,1;w0,30,1,0,1,1;", 999999, n, n, six[n]);
        }
    }

    /** By 23 the first demand that is drawn is 0. */
    private static void t3_drawnWhereBestCostsNothing() {
        drawn("v0;h9;p5,9,1,0,1,1;", 23, 1, 1, 0);
        drawn("v0;h9;w5,9,1,0,1,1;", 23, 1, 1, 0);
        drawn("v1;h9;p5,9,1,0,1,1;", 23, 1, 0, 0);
    }

    private static void t3_drawnWhereThereIsNoBest() {
        drawn("v0;h0;w0,20,1,0,1,1;", 1, 8, 4, 10 + 18 + 8 + 4);
        drawn("v0;h0;p0,0,1,0,1,1;", 1, 8, 0, 0);
        drawn("v0;h60;w0,20,1,0,1,1;", 1, 0, 0, 0);
        drawn("v0;h60;w0,20,1,0,1,1;", 1, 1, 1, 10);
        drawn("v0;h60;h60;w0,20,1,0,1,1;", 1, 8, 0, 0);
        drawn("v20;h0;w0,30,1,0,1,1;", 1, 8, 3, 10 + 8 + 4);
    }

    // ---- kinds, asks

    private static void t3_kindsThatAUnitIs() {
        int[] is = {0b000011, 0b000111, 0b001011, 0b010001, 0b110001};
        for (int k = 0; k < 5; k++) {
            UnitHours x = Sentences.day("v0;h0;" + SORTS.charAt(k) + "0,0,1,0,1,1;");
            for (int as = 0; as <= 5; as++) {
                due((k + 1) + " as " + as, x.as(0, as), (is[k] >> as & 1) == 1 ? 0 : KIND);
            }
        }
    }

    /** Unit 2 of three hours, on in two of them, with a HIGH of 13. */
    private static void asked(int kind, int what, long answer, long... trace) {
        String unit = SORTS.charAt(kind - 1) + "1,13,1,1,1,1;";
        UnitHours x = Sentences.day("v0;h1;h1;h1;p1,11,1,1,1,1;p1,11,1,1,1,1;" + unit);
        x.run(2, 5);
        due("trace ahead of it", x.trace(0), NONE);
        due("ask " + what + " of kind " + kind, x.ask(2, what), answer);
        for (int k = 0; k < 16; k++) {
            due("trace " + k + " of ask " + what + " of kind " + kind, x.trace(k), k < trace.length ? trace[k] : NONE);
        }
        due("asked again", x.ask(2, what), answer);
        due("the trace was empty ahead of it", x.trace(trace.length), NONE);
        due("and has begun anew", x.trace(0), trace[0]);
    }

    private static void t4_sizeOfEachKind() {
        asked(1, 0, 13 + 2 + 2, 11, 10, 21, 20);
        asked(2, 0, -(13 + 2 * (2 + 2)), 12, 11, 10, 24, 21, 20);
        asked(3, 0, 13 + (2 + 2 - 1000), 11, 10, 22, 21, 20);
        asked(4, 0, 13 - 100, 13, 10);
        asked(5, 0, 2 * (13 - 100), 14, 13, 10);
    }

    private static void t4_markOfEachKind() {
        asked(1, 1, 2 + 2, 21, 20);
        asked(2, 1, 2 * (2 + 2), 24, 21, 20);
        asked(3, 1, 2 + 2 - 1000, 22, 21, 20);
        asked(4, 1, 2 - (13 - 100), 23, 20, 13, 10);
        asked(5, 1, 2 - 2 * (13 - 100), 23, 20, 14, 13, 10);
    }

    private static void t4_theTraceIsEmptyAtFirst() {
        UnitHours x = Sentences.day(Sentences.TWO);
        for (int i : new int[] {LEAST, -1, 0, 1, 15, 16, MOST}) {
            due("trace " + i, x.trace(i), NONE);
        }
        x.ask(2, 0);
        due("behind an ask that is refused", x.trace(0), NONE);
    }

    private static void t4_theShortestTraceAndTheLongest() {
        UnitHours x = Sentences.day("v0;h1;w0,1,1,1,1,1;q0,1,1,1,1,1;");
        x.ask(1, 0);
        due("the sixth", x.trace(5), 20);
        due("no seventh", x.trace(6), NONE);
        x.ask(0, 0);
        due("the second", x.trace(1), 10);
        due("no third", x.trace(2), NONE);
        due("no sixth any more", x.trace(5), NONE);
    }

    private static void t4_asksOfTheFirstUnitAndTheLast() {
        UnitHours x = Sentences.day("v0;h1;" + "p0,0,1,0,1,1;".repeat(4));
        for (int u = 0; u < 4; u++) {
            due("mark", x.ask(u, 1), u);
            due("size", x.ask(u, 0), u);
        }
        for (int u = 0; u < 4; u++) {
            x.become(u, 5);
            due("mark of a river", x.ask(u, 1), u + 200);
            due("size of a river", x.ask(u, 0), -200);
        }
    }

    private static void t4_theKindAsItIsNow() {
        UnitHours x = Sentences.day("v0;h1;p0,30,1,0,1,1;");
        due("plain", x.ask(0, 0), 30);
        x.run(0, 1);
        due("on", x.ask(0, 0), 31);
        x.become(0, 2);
        due("quick", x.ask(0, 0), -32);
        x.undo();
        due("plain again", x.ask(0, 0), 31);
        x.undo();
        due("off again", x.ask(0, 0), 30);
    }
}
