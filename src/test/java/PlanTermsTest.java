/** 'Terms', part 2, sentence by sentence, at its edges: plans, what they give and cost, the best one, acts. */
public final class PlanTermsTest {
    private static final int NONE = Sentences.NONE, STATE = Sentences.STATE;
    /** One plain unit for each price, and water: floors 4, 3, 2, 0, roofs 9, 8, 9, 7. */
    private static final String GIVING = "v0;h20;p4,9,5,0,1,1;p3,8,2,0,1,1;p2,9,5,0,1,1;w6,7,1,0,1,1;";

    public static void main(String[] args) {
        Sentences.runAll(PlanTermsTest.class, "t2");
    }

    private static void due(String call, long got, long want) {
        Sentences.due(call, got, want);
    }

    /** Hours as they are written: hour 0 is first. */
    private static int bits(String hours) {
        int bits = 0;
        for (int h = 0; h < hours.length(); h++) {
            bits |= (hours.charAt(h) - '0') << h;
        }
        return bits;
    }

    private static UnitHours running(String text, String... hours) {
        UnitHours x = Sentences.day(text);
        for (int u = 0; u < hours.length; u++) {
            x.run(u, bits(hours[u]));
        }
        return x;
    }

    // ---- starts

    private static void starts(String on, String starting) {
        UnitHours x = running("v0;" + "h0;".repeat(on.length()) + "p0,9,1,0,1,1;", on);
        due("starts of " + on, x.unit(0, 7), bits(starting));
        due("how many of " + on, x.plan(3), Integer.bitCount(bits(starting)));
    }

    private static void t2_aUnitStartsWhereItWasOffAhead() {
        starts("000000", "000000");
        starts("001100", "001000");
        starts("010101", "010101");
        starts("011011", "010010");
        starts("000001", "000001");
    }

    private static void t2_aheadOfHour0AllAreOff() {
        starts("1", "1");
        starts("0", "0");
        starts("100000", "100000");
        starts("111111", "100000");
        starts("101111", "101000");
        UnitHours x = running("v0;h0;h0;r0,9,1,0,1,1;", "11");
        due("a river starts too", x.unit(0, 7), 1);
        due("a river starts too", x.plan(3), 1);
    }

    // ---- keeping hours

    private static void keeps(int up, int down, String on, boolean isKept) {
        UnitHours x = running("v0;" + "h0;".repeat(on.length()) + "p0,9,1,0," + up + "," + down + ";", on);
        due("unit " + up + " " + down + " " + on, x.unit(0, 8), isKept ? 1 : 0);
        due("plan " + up + " " + down + " " + on, x.plan(2), isKept ? 0 : 1);
        due("cost " + up + " " + down + " " + on, x.plan(0), isKept ? 0 : NONE);
    }

    private static void t2_aRowOfUpOrMore() {
        keeps(3, 1, "111000", true);
        keeps(3, 1, "110000", false);
        keeps(3, 1, "100000", false);
        keeps(3, 1, "011100", true);
        keeps(3, 1, "011000", false);
        keeps(3, 1, "011110", true);
        keeps(2, 1, "110000", true);
        keeps(2, 1, "100000", false);
        keeps(2, 1, "110100", false);
        keeps(1, 1, "100000", true);
        keeps(1, 1, "010010", true);
    }

    private static void t2_aRowThatLastsToTheEnd() {
        keeps(3, 1, "000001", true);
        keeps(3, 1, "000011", true);
        keeps(3, 1, "000111", true);
        keeps(3, 1, "000110", false);
        keeps(3, 1, "000010", false);
        keeps(3, 1, "111001", true);
        keeps(3, 1, "111111", true);
        keeps(3, 3, "1", true);
        keeps(3, 3, "11", true);
        keeps(3, 3, "01", true);
        keeps(3, 3, "10", false);
        keeps(2, 3, "10", false);
        keeps(1, 3, "10", true);
    }

    private static void t2_hoursOffBetweenTwoRows() {
        keeps(1, 3, "100010", true);
        keeps(1, 3, "100100", false);
        keeps(1, 3, "101000", false);
        keeps(1, 3, "100001", true);
        keeps(1, 2, "100100", true);
        keeps(1, 2, "101000", false);
        keeps(1, 1, "101010", true);
        keeps(1, 2, "100101", false);
        keeps(1, 2, "101001", false);
        keeps(1, 3, "110001", true);
        keeps(1, 3, "111001", false);
        keeps(2, 2, "110011", true);
        keeps(2, 2, "111011", false);
    }

    private static void t2_hoursOffAheadOfAllRowsAndBehindThem() {
        keeps(1, 3, "010000", true);
        keeps(1, 3, "001000", true);
        keeps(1, 3, "111110", true);
        keeps(1, 3, "111100", true);
        keeps(1, 3, "01", true);
        keeps(1, 3, "10", true);
        keeps(3, 3, "000000", true);
        keeps(3, 3, "0", true);
    }

    private static void t2_aRiverIsOnInAllHours() {
        for (int n = 1; n <= 6; n++) {
            UnitHours x = Sentences.day("v0;" + "h0;".repeat(n) + "r0,9,1,0,3,3;");
            due("off", x.unit(0, 8), 0);
            due("off", x.plan(2), 1);
            for (int on = 1; on < 1 << n; on++) {
                x.run(0, on);
                due("on in " + on, x.unit(0, 8), on == (1 << n) - 1 ? 1 : 0);
            }
            due("cost", x.plan(0), 0);
        }
    }

    private static void t2_allHoursByAllUpsAndDowns() {
        for (int k = 0; k < 9; k++) {
            int up = 1 + k / 3, down = 1 + k % 3;
            UnitHours x = Sentences.day("v0;h0;h0;h0;h0;h0;h0;s0,9,1,0," + up + "," + down + ";");
            Model.Unit unit = new Model.Unit();
            unit.kind = 3;
            unit.up = up;
            unit.down = down;
            for (int on = 1; on < 64; on++) {
                x.run(0, on);
                due("unit " + up + " " + down + " on in " + on, x.unit(0, 8), unit.keeps(on, 6) ? 1 : 0);
            }
        }
    }

    // ---- floors, roofs, hours that are met

    private static void t2_floorOfEachKind() {
        int[] floors = {3, 3, 3, 0, 0};
        for (int k = 0; k < 5; k++) {
            UnitHours x = running("v0;h9;h9;" + "pqswr".charAt(k) + "3,8,1,0,1,1;", "11");
            due("floor of kind " + (k + 1), x.hour(0, 2), floors[k]);
            due("floor of kind " + (k + 1), x.hour(1, 2), floors[k]);
            x.run(0, 0);
            due("off: none", x.hour(0, 2), 0);
            due("off: no roof", x.hour(0, 3), 0);
        }
    }

    private static void t2_roofOfEachKind() {
        int[] first = {8, 8, 3, 8, 8};
        for (int k = 0; k < 5; k++) {
            UnitHours x = running("v0;h9;h9;h9;h9;" + "pqswr".charAt(k) + "3,8,1,0,1,1;", "1101");
            due("roof of kind " + (k + 1) + ", first hour", x.hour(0, 3), first[k]);
            due("roof of kind " + (k + 1) + ", second hour", x.hour(1, 3), 8);
            due("roof of kind " + (k + 1) + ", off", x.hour(2, 3), 0);
            due("roof of kind " + (k + 1) + ", it starts anew", x.hour(3, 3), first[k]);
        }
    }

    private static void met(String text, String hours, boolean isMet) {
        String[] each = hours.split(" ");
        UnitHours x = running(text, each);
        int last = each[0].length() - 1;
        due("met: " + text + " " + hours, x.hour(last, 4), isMet ? 1 : 0);
        due("failing: " + text + " " + hours, x.plan(1) >> last & 1, isMet ? 0 : 1);
        due("gives: " + text + " " + hours, x.gives(0, last) == NONE ? 0 : 1, isMet ? 1 : 0);
    }

    private static void t2_floorsThatAreJustDemandAndOneMore() {
        met("v0;h5;p5,9,1,0,1,1;", "1", true);
        met("v0;h4;p5,9,1,0,1,1;", "1", false);
        met("v0;h8;p5,9,1,0,1,1;q3,9,1,0,1,1;", "1 1", true);
        met("v0;h7;p5,9,1,0,1,1;q3,9,1,0,1,1;", "1 1", false);
        met("v0;h5;p5,9,1,0,1,1;w3,9,1,0,1,1;", "1 1", true);
        met("v0;h4;p5,9,1,0,1,1;r3,9,1,0,1,1;", "1 1", false);
        met("v0;h0;w5,9,1,0,1,1;", "1", true);
        met("v0;h0;r5,9,1,0,1,1;", "1", true);
        met("v0;h0;p1,9,1,0,1,1;", "1", false);
        met("v0;h0;p0,9,1,0,1,1;", "1", true);
    }

    private static void t2_floorsOfThoseThatStayOnToo() {
        met("v0;h5;h5;p5,9,1,0,1,1;", "11", true);
        met("v0;h5;h4;p5,9,1,0,1,1;", "11", false);
        met("v0;h5;h8;p5,9,1,0,1,1;q3,9,1,0,1,1;", "11 01", true);
        met("v0;h5;h7;p5,9,1,0,1,1;q3,9,1,0,1,1;", "11 01", false);
        met("v0;h8;h7;p5,9,1,0,1,1;q3,9,1,0,1,1;", "11 11", false);
        met("v0;h5;h4;s5,9,1,0,1,1;", "11", false);
    }

    private static void t2_roofsThatAreJustDemandAndReserveAndOneLess() {
        met("v2;h7;p5,9,1,0,1,1;", "1", true);
        met("v2;h8;p5,9,1,0,1,1;", "1", false);
        met("v3;h7;p5,9,1,0,1,1;", "1", false);
        met("v0;h9;p5,9,1,0,1,1;", "1", true);
        met("v0;h10;p5,9,1,0,1,1;", "1", false);
        met("v20;h40;p5,30,1,0,1,1;r5,30,1,0,1,1;", "1 1", true);
        met("v20;h41;p5,30,1,0,1,1;r5,30,1,0,1,1;", "1 1", false);
        met("v0;h60;p5,30,1,0,1,1;r5,30,1,0,1,1;", "1 1", true);
        met("v1;h60;p5,30,1,0,1,1;r5,30,1,0,1,1;", "1 1", false);
    }

    private static void t2_aSlowOneThatStarts() {
        met("v0;h5;s5,9,1,0,1,1;", "1", true);
        met("v1;h5;s5,9,1,0,1,1;", "1", false);
        met("v0;h6;s5,9,1,0,1,1;", "1", false);
        met("v0;h0;h6;s5,9,1,0,1,1;", "01", false);
        met("v0;h0;h6;s5,9,1,0,1,1;", "11", true);
        met("v3;h5;h6;s5,9,1,0,1,1;", "11", true);
    }

    private static void t2_noUnitIsOn() {
        met("v0;h0;p5,9,1,0,1,1;", "0", true);
        met("v1;h0;p5,9,1,0,1,1;", "0", false);
        met("v0;h1;p5,9,1,0,1,1;", "0", false);
        due("gives", Sentences.day("v0;h0;p5,9,1,0,1,1;").gives(0, 0), 0);
    }

    // ---- what each gives

    private static void given(UnitHours x, int demand, long... want) {
        x.demand(0, demand);
        Sentences.dueAll("demand " + demand, new long[] {x.gives(0, 0), x.gives(1, 0), x.gives(2, 0), x.gives(3, 0)},
                want);
    }

    private static void t2_floorsFirstThenTheLeastPrice() {
        UnitHours x = running(GIVING, "1", "1", "1", "1");
        given(x, 8, NONE, NONE, NONE, NONE);
        given(x, 9, 4, 3, 2, 0);
        given(x, 10, 4, 3, 2, 1);
        given(x, 16, 4, 3, 2, 7);
        given(x, 17, 4, 4, 2, 7);
        given(x, 21, 4, 8, 2, 7);
    }

    private static void t2_ofLikePricesTheLesserNumberFirst() {
        UnitHours x = running(GIVING, "1", "1", "1", "1");
        given(x, 22, 5, 8, 2, 7);
        given(x, 26, 9, 8, 2, 7);
        given(x, 27, 9, 8, 3, 7);
        given(x, 33, 9, 8, 9, 7);
        given(x, 34, NONE, NONE, NONE, NONE);
        x.price(3, 5);
        given(x, 26, 9, 8, 9, 0);
        given(x, 27, 9, 8, 9, 1);
        x.price(1, 5);
        given(x, 15, 9, 4, 2, 0);
        x.price(0, 9);
        given(x, 25, 4, 8, 9, 4);
    }

    private static void t2_oneThatIsOffGivesNothing() {
        UnitHours x = running(GIVING, "1", "0", "1", "1");
        given(x, 20, 9, 0, 4, 7);
        x.run(3, 0);
        given(x, 18, 9, 0, 9, 0);
        given(x, 19, NONE, NONE, NONE, NONE);
    }

    private static void t2_aSlowOneGivesItsLowAsItStarts() {
        UnitHours x = running("v0;h9;h9;s3,8,1,0,1,1;p2,9,5,0,1,1;", "11", "11");
        Sentences.dueAll("gives", new long[] {x.gives(0, 0), x.gives(1, 0), x.gives(0, 1), x.gives(1, 1)}, 3, 6, 7, 2);
    }

    private static void t2_aSlowOneStartsBesideOneThatStays() {
        UnitHours x = running("v0;h9;h9;p2,9,5,0,1,1;s3,8,1,0,1,1;", "11", "01");
        Sentences.dueAll("gives", new long[] {x.gives(0, 0), x.gives(1, 0), x.gives(0, 1), x.gives(1, 1)}, 9, 0, 6, 3);
        due("cost", x.plan(0), 45 + 30 + 3);
    }

    private static void t2_aSlowOneStaysBesideOneThatStarts() {
        UnitHours x = running("v0;h3;h9;p2,9,5,0,1,1;s3,8,1,0,1,1;", "01", "11");
        Sentences.dueAll("gives", new long[] {x.gives(0, 0), x.gives(1, 0), x.gives(0, 1), x.gives(1, 1)}, 0, 3, 2, 7);
        due("cost", x.plan(0), 3 + 10 + 7);
    }

    // ---- what a plan costs

    private static void t2_whatEachGivesTimesPrice() {
        UnitHours x = running(GIVING, "1", "1", "1", "1");
        int[][] due = {{9, 4 * 5 + 3 * 2 + 2 * 5}, {16, 36 + 7}, {22, 25 + 16 + 10 + 7}, {33, 45 + 16 + 45 + 7}};
        for (int[] d : due) {
            x.demand(0, d[0]);
            due("cost of " + d[0], x.plan(0), d[1]);
        }
    }

    private static void t2_startOfEachKind() {
        int[] once = {13, 9, 13, 6, 6};
        for (int k = 0; k < 5; k++) {
            UnitHours x = running("v0;h3;h0;h3;" + "pqswr".charAt(k) + "3,8,2,7,1,1;", "100");
            x.demand(2, 0);
            due("kind " + (k + 1) + " starts once", x.plan(0), k == 4 ? NONE : once[k]);
            x.run(0, 5);
            x.demand(2, 3);
            due("kind " + (k + 1) + " starts twice", x.plan(0), k == 4 ? NONE : 2 * once[k]);
            x.demand(1, 3);
            x.run(0, 7);
            due("kind " + (k + 1) + " starts once, three hours", x.plan(0), once[k] + 12);
        }
    }

    private static void t2_halfOfAStartIsCut() {
        for (int start = 0; start <= 40; start++) {
            UnitHours x = running("v0;h3;h0;h3;q3,8,2," + start + ",1,1;", "101");
            due("start " + start, x.plan(0), 12 + 2 * (start / 2));
        }
    }

    private static void t2_noCostIfAnHourIsNotMet() {
        UnitHours x = running("v0;h3;h3;p3,8,2,7,1,1;", "11");
        due("cost", x.plan(0), 19);
        x.demand(1, 9);
        due("one hour fails", x.plan(0), NONE);
        due("which", x.plan(1), 2);
        x.demand(0, 2);
        due("both fail", x.plan(1), 3);
        due("both fail", x.plan(0), NONE);
        due("hours are kept", x.plan(2), 0);
    }

    private static void t2_noCostIfAUnitBreaksItsHours() {
        UnitHours x = running("v0;h3;h0;h3;p3,8,2,7,2,1;w0,3,1,0,1,1;r0,0,1,0,1,1;", "100", "001", "111");
        due("hours are met", x.plan(1), 0);
        due("who breaks", x.plan(2), 1);
        due("cost", x.plan(0), NONE);
        x.run(0, 0);
        x.run(1, 5);
        due("none breaks", x.plan(2), 0);
        due("cost", x.plan(0), 6);
        x.run(2, 3);
        due("the river breaks", x.plan(2), 4);
        due("cost", x.plan(0), NONE);
    }

    // ---- best

    private static void best(String text, long cost, long... plan) {
        UnitHours x = Sentences.day(text);
        due("cost of " + text, x.best(-1), cost);
        for (int h = 0; h < x.count(2); h++) {
            due("hour " + h + " of " + text, x.best(h), cost == NONE ? NONE : plan[h]);
        }
        due("laid " + text, x.layBest(), cost);
        due("plan of " + text, x.plan(0), cost);
        for (int h = 0; h < x.count(2); h++) {
            due("hour " + h + " laid " + text, x.hour(h, 1), cost == NONE ? 0 : plan[h]);
        }
    }

    private static void t2_noBest() {
        best("v0;h31;p0,30,1,0,1,1;", NONE);
        best("v1;h30;p0,30,1,0,1,1;", NONE);
        best("v0;h4;p5,30,1,0,1,1;", NONE);
        best("v1;h4;p5,30,1,0,1,1;", NONE);
        best("v1;h0;p5,30,1,0,1,1;", NONE);
        best("v0;h5;h0;p5,30,1,0,2,1;", NONE);
        best("v0;h5;h0;h5;p5,30,1,0,1,2;", NONE);
        best("v0;h6;s5,30,1,0,1,1;", NONE);
        best("v0;h0;h6;s5,30,1,0,1,1;", NONE);
        best("v0;h60;h0;h60;h0;h60;h0;p0,14,1,0,1,1;p0,14,1,0,1,1;p0,14,1,0,1,1;p0,14,1,0,1,1;", NONE);
    }

    private static void t2_justABest() {
        best("v0;h30;p0,30,1,0,1,1;", 30, 1);
        best("v1;h29;p0,30,1,0,1,1;", 29, 1);
        best("v0;h5;p5,30,1,0,1,1;", 5, 1);
        best("v0;h5;h5;p5,30,1,0,2,1;", 10, 1, 1);
        best("v0;h0;h5;p5,30,1,0,2,1;", 5, 0, 1);
        best("v0;h5;h0;h5;p5,30,1,0,1,1;", 10, 1, 0, 1);
        best("v0;h5;h6;s5,30,1,0,1,1;", 11, 1, 1);
        best("v0;h0;p5,30,1,0,1,1;", 0, 0);
        best("v20;h60;p0,20,9,40,1,1;p0,20,9,40,1,1;p0,20,9,40,1,1;p0,20,9,40,1,1;", 700, 15);
        best("v0;h60;h60;h60;h60;h60;h60;" + "p15,15,9,40,1,1;".repeat(4), 6 * 540 + 160, 15, 15, 15, 15, 15, 15);
    }

    private static void t2_ofSeveralTheFirstByHour0() {
        best("v0;h4;p1,4,2,0,1,1;p1,4,2,0,1,1;", 8, 1);
        best("v0;h4;p1,4,2,0,1,1;p1,4,2,0,1,1;p1,4,2,0,1,1;p1,4,2,0,1,1;", 8, 1);
        best("v0;h0;p0,4,2,0,1,1;w1,4,2,9,1,1;", 0, 0);
        best("v1;h0;p0,4,2,1,1,1;w1,4,2,9,1,1;w1,4,2,9,1,1;", 0, 2);
        // the slow one must be on an hour ahead: (1, 1) costs what (0, 2) does
        best("v0;h0;h5;s0,5,1,0,1,1;p0,5,1,0,1,1;", 5, 0, 2);
        best("v0;h0;h5;p0,5,1,0,1,1;s0,5,1,0,1,1;", 5, 0, 1);
    }

    private static void t2_ofSeveralThenByHour1AndSoOn() {
        best("v0;h5;h5;p0,5,1,0,1,1;p0,5,1,0,1,1;", 10, 1, 1);
        best("v0;h5;h5;h5;h5;h5;h5;" + "w0,5,1,0,1,1;".repeat(4), 30, 1, 1, 1, 1, 1, 1);
        // hour 0 is 2 in each of them; unit 0 rests as long as it can
        best("v0;h9;h9;h9;w0,8,1,0,1,1;p9,9,1,3,1,1;", 30, 2, 2, 2);
        best("v0;h0;h0;h4;h4;p4,4,1,2,1,1;p4,4,1,2,1,1;", 10, 0, 0, 1, 1);
        // unit 0 has the lesser bits in hour 0, and must be on in three hours then
        best("v0;h1;h0;h0;h0;w0,1,1,0,3,1;w0,1,1,0,1,1;", 1, 1, 1, 1, 0);
    }

    private static void t2_theLeastCostAheadOfTheFirst() {
        best("v0;h4;p1,4,3,0,1,1;p1,4,2,0,1,1;", 8, 2);
        best("v0;h4;p1,4,2,1,1,1;p1,4,2,0,1,1;", 8, 2);
        best("v0;h4;p1,4,2,1,1,1;q1,4,2,1,1,1;", 8, 2);
        best("v0;h4;h0;h4;p0,4,1,3,1,1;", 11, 1, 1, 1);
        best("v0;h4;h0;h4;p0,4,1,0,1,1;", 8, 1, 0, 1);
        best("v0;h4;h1;h4;p1,4,1,3,1,1;q0,1,2,0,1,1;", 12, 1, 1, 1);
    }

    /** Six hours and four units whose least hours are the longest: no search is wider. */
    private static void t2_bestOfTheWidestDay() {
        String units = "p10,10,1,0,3,3;q10,10,2,0,3,3;s10,10,3,0,3,3;p10,10,4,0,3,3;";
        best("v0;h40;h40;h40;h30;h20;h10;" + units, 300 + 60 + 30 + 10, 15, 15, 15, 7, 3, 1);
        best("v0;h10;h20;h30;h40;h40;h40;" + units, 10 + 30 + 60 + 300, 1, 3, 7, 15, 15, 15);
        best("v0;h0;h0;h0;h10;h10;h10;" + units, 30, 0, 0, 0, 1, 1, 1);
        best("v0;h40;h40;h40;h0;h0;h0;" + units, 300, 15, 15, 15, 0, 0, 0);
        best("v0;h40;h40;h30;h30;h20;h10;" + units, NONE);
        best("v0;h10;h10;h10;h0;h0;h10;" + units, 30 + 20, 1, 1, 1, 0, 0, 2);
    }

    /** Each unit in its turn is off for just as long as it must be, and for an hour less. */
    private static void t2_bestThatTurnsOffAndOnAgain() {
        String steady = "p5,5,1,0,1,1;", turning = "p10,10,1,0,1,3;";
        best("v0;h10;h0;h0;h0;h10;h10;" + turning, 30, 1, 0, 0, 0, 1, 1);
        best("v0;h15;h5;h5;h5;h15;h15;" + steady + turning, 60, 3, 1, 1, 1, 3, 3);
        best("v0;h15;h5;h5;h5;h15;h15;" + turning + steady, 60, 3, 2, 2, 2, 3, 3);
        best("v0;h20;h10;h10;h10;h20;h20;" + steady + steady + turning, 90, 7, 3, 3, 3, 7, 7);
        best("v0;h25;h15;h15;h15;h25;h25;" + steady + steady + steady + turning, 120, 15, 7, 7, 7, 15, 15);
        best("v0;h15;h5;h5;h15;h15;h15;" + steady + turning, NONE);
        best("v0;h15;h5;h5;h15;" + steady + "p10,10,1,0,1,2;", 40, 3, 1, 1, 3);
        best("v0;h15;h5;h15;" + steady + "p10,10,1,0,1,2;", NONE);
        best("v0;h15;h5;h15;" + steady + "p10,10,1,0,1,1;", 35, 3, 1, 3);
    }

    private static void t2_bestWithRivers() {
        best("v0;h5;h0;r0,5,2,9,1,1;p5,5,1,0,1,1;", 5, 3, 1);
        best("v0;h5;h0;p5,5,1,0,1,1;r0,5,2,9,1,1;", 5, 3, 2);
        best("v0;h5;h0;h5;r0,5,2,9,3,3;p5,5,1,0,1,1;r0,5,2,9,3,3;", 10, 7, 5, 7);
        best("v0;h9;h9;r0,5,2,9,1,1;r0,5,1,9,1,1;", 2 * (5 + 8), 3, 3);
        best("v0;h11;h0;r0,5,2,9,1,1;r0,5,1,9,1,1;", NONE);
        UnitHours x = Sentences.day("v0;h5;h0;h5;p5,5,1,0,1,1;p5,5,1,0,1,3;w0,5,9,0,1,1;");
        due("without a river", x.best(1), 0);
        x.become(0, 5);
        due("with one", x.best(1), 1);
        due("with one", x.best(-1), 10);
        x.become(2, 5);
        due("with two", x.best(1), 5);
        x.become(1, 5);
        due("with three", x.best(1), 7);
        x.undo();
        x.undo();
        x.undo();
        due("without a river", x.best(1), 0);
    }

    /** The unit behind a river keeps its hours, whatever the river was before. */
    private static void t2_bestBehindARiver() {
        UnitHours x = Sentences.day("v0;h5;h0;h0;p0,0,1,0,1,1;p5,5,1,0,3,1;");
        due("it must be on too long", x.best(-1), NONE);
        x.become(0, 5);
        due("behind a river, too", x.best(-1), NONE);
        due("by no demand", x.who(0, 0, 5), 0);
        due("but by none at all", x.who(1, 0, 0), 0);
        x.demand(1, 5);
        x.demand(2, 5);
        due("now it can", x.best(-1), 15);
        due("both are on", x.best(2), 3);
        UnitHours y = Sentences.day("v0;h0;h5;p0,0,1,0,1,1;p5,5,1,9,1,1;");
        due("it starts", y.best(-1), 14);
        y.become(0, 5);
        due("behind a river, too", y.best(-1), 14);
        due("by no demand", y.who(1, 0, 14), 0);
        due("not without its start", y.who(0, 0, 5), 0);
    }

    // ---- acts

    private static void t2_sixteenActsAndOneMore() {
        UnitHours x = Sentences.day(Sentences.TWO);
        for (int k = 1; k <= 16; k++) {
            x.demand(0, k);
            due("acts", x.count(4), k);
        }
        due("demand", x.demand(0, 17), 16);
        due("one more", x.count(4), 16);
        for (int k = 16; k >= 1; k--) {
            due("undo", x.undo(), k - 1);
            due("demand", x.hour(0, 0), k);
        }
        due("the oldest is forgotten", x.undo(), STATE);
        due("demand", x.hour(0, 0), 1);
    }

    private static void t2_justSixteenActs() {
        UnitHours x = Sentences.day(Sentences.TWO);
        for (int k = 1; k <= 16; k++) {
            x.demand(0, k + 20);
        }
        for (int k = 15; k >= 0; k--) {
            due("undo", x.undo(), k);
        }
        due("as at first", x.hour(0, 0), 5);
        due("none", x.undo(), STATE);
    }

    private static void t2_actsBehindUndoneOnes() {
        UnitHours x = Sentences.day(Sentences.TWO);
        for (int k = 1; k <= 20; k++) {
            x.demand(0, k);
        }
        for (int k = 0; k < 5; k++) {
            x.undo();
        }
        due("demand", x.hour(0, 0), 15);
        for (int k = 31; k <= 37; k++) {
            x.demand(0, k);
        }
        due("acts", x.count(4), 16);
        long[] back = new long[16];
        for (int k = 0; k < 16; k++) {
            x.undo();
            back[k] = x.hour(0, 0);
        }
        Sentences.dueAll("back", back, 36, 35, 34, 33, 32, 31, 15, 14, 13, 12, 11, 10, 9, 8, 7, 6);
        due("none", x.undo(), STATE);
    }

    private static void t2_eachActCanBeUndoneTheLatestFirst() {
        UnitHours x = Sentences.day(Sentences.TWO);
        x.run(1, 2);
        x.layBest();
        x.demand(1, 9);
        x.reserve(0);
        x.price(0, 7);
        x.become(1, 4);
        due("acts", x.count(4), 6);
        due("undo become", x.undo(), 5);
        due("kind", x.kind(1), 2);
        due("price", x.unit(0, 2), 7);
        due("undo price", x.undo(), 4);
        due("price", x.unit(0, 2), 3);
        due("reserve", x.plan(4), 0);
        due("undo reserve", x.undo(), 3);
        due("reserve", x.plan(4), 1);
        due("demand", x.hour(1, 0), 9);
        due("undo demand", x.undo(), 2);
        due("demand", x.hour(1, 0), 8);
        due("on", x.unit(0, 6), 3);
        due("undo layBest", x.undo(), 1);
        due("on", x.unit(0, 6), 0);
        due("on", x.unit(1, 6), 2);
        due("undo run", x.undo(), 0);
        due("on", x.unit(1, 6), 0);
    }

    private static void t2_whatIsRefusedIsNoAct() {
        UnitHours x = Sentences.day(Sentences.TWO);
        x.run(0, 0);
        x.run(0, 4);
        x.run(2, 1);
        x.demand(0, 61);
        x.demand(2, 1);
        x.reserve(21);
        x.price(0, 0);
        x.price(2, 1);
        x.become(0, 1);
        x.become(0, 0);
        x.undo();
        x.day();
        due("acts", x.count(4), 0);
        x.demand(0, 60);
        due("layBest", x.layBest(), NONE);
        due("one act", x.count(4), 1);
    }

    private static void t2_whatIsForetoldIsNoAct() {
        UnitHours x = Sentences.priced(Sentences.TWO, 1, 2);
        x.best(-1);
        x.alone(0, 0, 0, -2);
        x.bound(0, 0);
        x.moved(3, -1);
        x.gap(3);
        x.more(0);
        x.wanted();
        x.who(0, 0, 1);
        x.who(2, 0, 1);
        x.fits(0, 0, 1);
        x.drawn(3, 1, 0);
        x.image(0);
        x.ask(0, 0);
        x.as(0, 0);
        due("acts", x.count(4), 0);
    }
}
