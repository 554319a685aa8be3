/** Promises 6 to 19. */
public final class DaysTest {
    private static final int NONE = UnitHours.NONE, BAD = UnitHours.BAD, STATE = UnitHours.STATE;
    /** Two hours; a plain unit of 2 to 6 for 3, its start 4; a quick one of 1 to 5 for 2, its start 7. */
    private static final String TWO = "v1;h5;h8;p2,6,3,4,1,1;q1,5,2,7,1,1;";
    private static final String UNIT = "p0,0,1,0,1,1;";
    private static final Check CHECK = new Check("DaysTest");

    public static void main(String[] args) {
        feed();
        days();
        faults();
        faultsStay();
        tapeEnds();
        run();
        layBest();
        demandReservePrice();
        become();
        undo();
        undoOfEachAct();
        unit();
        keeps();
        hour();
        gives();
        plan();
        CHECK.finish();
    }

    private static void due(String call, long got, long want) {
        CHECK.due(call, got, want);
    }

    private static void feed() {
        UnitHours x = new UnitHours();
        due("6: below", x.feed(-1), BAD);
        due("6: above", x.feed(256), BAD);
        due("6: least", x.feed(0), 1);
        due("6: most", x.feed(255), 2);
        for (int k = 3; k <= 120; k++) {
            due("6: byte " + k, x.feed(120), k);
        }
        due("6: full", x.feed(120), UnitHours.FULL);
        due("6: BAD ahead of FULL", x.feed(256), BAD);
        due("6: the tape", x.count(5), 120);
        due("6: read", x.day(), -1000100);
        due("6: empty then", x.count(5), 0);
        due("6: anew", x.feed(118), 1);
    }

    private static void days() {
        UnitHours x = new UnitHours();
        Check.feedText(x, TWO);
        due("7: day", x.day(), 2);
        due("7: the tape is empty", x.count(5), 0);
        due("7: units", x.count(1), 2);
        due("7: hours", x.count(2), 2);
        due("7: demands", x.count(3), 13);
        x.layBest();
        due("7: an act", x.count(4), 1);
        Check.feedText(x, "v20;h60;h00;h1;h2;h3;h4;w20,30,9,40,3,3;r0,0,1,0,1,1;s05,5,1,0,1,1;q1,2,3,4,3,2;");
        due("7: another day", x.day(), 4);
        due("7: no acts", x.count(4), 0);
        due("7: none to undo", x.undo(), STATE);
        due("7: hours", x.count(2), 6);
        due("7: reserve", x.plan(4), 20);
        for (int h = 0; h < 6; h++) {
            due("7: demand", x.hour(h, 0), new int[] {60, 0, 1, 2, 3, 4}[h]);
        }
        int[][] told = {{20, 30, 9, 40, 3, 3, 0, 0, 1}, {0, 0, 1, 0, 1, 1, 0, 0, 0}, {5, 5, 1, 0, 1, 1, 0, 0, 1},
            {1, 2, 3, 4, 3, 2, 0, 0, 1}};
        for (int u = 0; u < 4; u++) {
            for (int w = 0; w < 9; w++) {
                due("7: unit(" + u + ", " + w + ")", x.unit(u, w), told[u][w]);
            }
            due("7: kind", x.kind(u), new int[] {4, 5, 3, 2}[u]);
        }
    }

    private static void fault(String text, int place, int number) {
        UnitHours x = new UnitHours();
        Check.feedText(x, text);
        due("7: " + text, x.day(), number == 0 ? place : -1000100 - place);
        due("8: " + text, x.fault(), number);
        due("7: the tape is empty", x.count(5), 0);
        due("7: is there a day", x.count(1), number == 0 ? place : 0);
    }

    private static void faults() {
        fault("", 0, 1);
        fault("x", 0, 1);
        fault("V0;", 0, 1);
        fault("7", 0, 1);
        fault("123", 0, 1);
        fault("v", 1, 1);
        fault("vv", 1, 1);
        fault("v;", 1, 1);
        fault("v 0;", 1, 1);
        fault("v-1;", 1, 1);
        fault("v21;", 1, 2);
        fault("v99", 1, 2);
        fault("v021;", 1, 1);
        fault("v000;", 1, 1);
        fault("v0", 2, 1);
        fault("v0,", 2, 1);
        fault("v0;", 3, 1);
        fault("v0;" + UNIT, 3, 1);
        fault("v0;v", 3, 1);
        fault("v0;h", 4, 1);
        fault("v0;h61;", 4, 2);
        fault("v0;h123;", 4, 1);
        fault("v0;h1234", 4, 1);
        fault("v0;h60", 6, 1);
        fault("v0;h6;", 6, 1);
        fault("v0;h6;;", 6, 1);
        fault("v0;h6;a", 6, 1);
        fault("v0;h6;" + (char) 232, 6, 1);
        fault("v0;h0;h0;h0;h0;h0;h0;" + UNIT, 1, 0);
        fault("v0;h0;h0;h0;h0;h0;h0;h0;" + UNIT, 21, 3);
        fault("v0;h0;h0;h0;h0;h0;h0;h", 21, 3);
        fault("v0;h0;h0;h0;h0;h0;h0;x", 21, 1);
        fault("v0;h0;p", 7, 1);
        fault("v0;h0;p21,", 7, 2);
        fault("v0;h0;p20,", 10, 1);
        fault("v0;h0;p0;", 8, 1);
        fault("v0;h0;p5,4,", 9, 2);
        fault("v0;h0;p5,31,", 9, 2);
        fault("v0;h0;p5,301,", 9, 1);
        fault("v0;h0;p0,0,0,", 11, 2);
        fault("v0;h0;p0,0,10,", 11, 2);
        fault("v0;h0;p0,0,9,41,", 13, 2);
        fault("v0;h0;p0,0,9,0,0,", 15, 2);
        fault("v0;h0;p0,0,9,0,4,", 15, 2);
        fault("v0;h0;p0,0,9,0,3,0;", 17, 2);
        fault("v0;h0;p0,0,9,0,3,4;", 17, 2);
        fault("v0;h0;p0,0,9,0,3,3", 18, 1);
        fault("v0;h0;p0,0,9,0,3,3,", 18, 1);
        fault("v0;h0;p0,0,9,0,3,3;", 1, 0);
        fault("v0;h0;p00,00,01,00,01,01;", 1, 0);
        fault("v0;h0;p20,20,9,40,3,3;", 1, 0);
        fault("v0;h0;" + UNIT + "h0;", 19, 1);
        fault("v0;h0;" + UNIT + ";", 19, 1);
        fault("v0;h0;" + UNIT + UNIT + UNIT + UNIT, 4, 0);
        fault("v0;h0;" + UNIT + UNIT + UNIT + UNIT + "r", 58, 3);
        fault("v0;h0;" + UNIT + UNIT + UNIT + UNIT + "h", 58, 1);
        fault("v0;h0;" + UNIT + UNIT + UNIT + UNIT + "1", 58, 1);
    }

    private static void faultsStay() {
        UnitHours x = Check.withDay(TWO);
        x.run(0, 3);
        Check.feedText(x, "v21;");
        due("7: a fault", x.day(), -1000101);
        due("7: all stays", x.unit(0, 6), 3);
        due("7: the act too", x.count(4), 1);
        due("8: fault", x.fault(), 2);
        Check.feedText(x, TWO);
        due("7: day", x.day(), 2);
        due("8: the latest fault", x.fault(), 2);
        x.day();
        due("8: the latest fault", x.fault(), 1);
    }

    /** A text ends where the tape does, whatever stood there before, and even where the tape is full. */
    private static void tapeEnds() {
        UnitHours x = new UnitHours();
        Check.feedText(x, "v0;h1234567");
        due("7: a run of figures", x.day(), -1000104);
        Check.feedText(x, "v0;h12");
        due("7: the end behind two figures", x.day(), -1000106);
        Check.feedText(x, "v0;h1");
        due("7: the end behind one", x.day(), -1000105);
        due("8: cannot stand there", x.fault(), 1);
        Check.feedText(x, "v0;h1;h");
        due("7: the end", x.day(), -1000107);
        String longest = "v20;h60;h60;h60;h60;h60;h60;" + "p20,30,09,40,03,03;".repeat(4);
        Check.feedText(x, longest);
        due("7: the longest day", x.day(), 4);
        Check.feedText(x, longest + "p20,30,09,40,03,03;");
        due("7: a fifth unit on a full tape", x.day(), -1000100 - longest.length());
        due("8: no room", x.fault(), 3);
        due("7: the day stays", x.count(1), 4);
    }

    private static void run() {
        UnitHours x = Check.withDay(TWO);
        due("9: it is so", x.run(0, 0), STATE);
        due("9: run", x.run(0, 1), 0);
        due("9: run", x.run(0, 2), 1);
        due("9: run", x.run(1, 3), 0);
        due("9: on", x.unit(0, 6), 2);
        due("9: on", x.unit(1, 6), 3);
        due("9: acts", x.count(4), 3);
        due("9: it is so", x.run(0, 2), STATE);
        due("9: bits", x.run(0, 4), BAD);
        due("9: bits", x.run(0, -1), BAD);
        due("9: unit", x.run(2, 1), BAD);
        due("9: unit", x.run(-1, 1), BAD);
        due("9: no act", x.count(4), 3);
        due("9: no day", new UnitHours().run(0, 0), BAD);
    }

    private static void layBest() {
        UnitHours x = Check.withDay(TWO);
        x.run(0, 1);
        due("10: layBest", x.layBest(), 38);
        due("10: on", x.unit(0, 6), 3);
        due("10: on", x.unit(1, 6), 3);
        due("10: cost", x.plan(0), 38);
        due("10: acts", x.count(4), 2);
        due("10: once more", x.layBest(), 38);
        due("10: an act too", x.count(4), 3);
        x.demand(1, 60);
        due("10: none", x.layBest(), NONE);
        due("10: no act", x.count(4), 4);
        due("10: the plan stays", x.unit(0, 6), 3);
        due("10: no day", new UnitHours().layBest(), STATE);
        UnitHours y = Check.withDay("v2;h10;h22;h30;h18;h5;p4,14,3,10,2,2;q3,12,5,8,1,1;s2,10,4,5,2,1;w5,9,1,30,1,3;");
        due("10: layBest", y.layBest(), 203);
        due("10: on", y.unit(0, 6), 15);
        due("10: on", y.unit(1, 6), 0);
        due("10: on", y.unit(2, 6), 6);
        due("10: on", y.unit(3, 6), 31);
    }

    private static void demandReservePrice() {
        UnitHours x = Check.withDay(TWO);
        due("11: demand", x.demand(1, 0), 8);
        due("11: demand", x.demand(1, 60), 0);
        due("11: it is", x.hour(1, 0), 60);
        due("11: the other", x.hour(0, 0), 5);
        due("11: together", x.count(3), 65);
        due("11: v", x.demand(0, -1), BAD);
        due("11: v", x.demand(0, 61), BAD);
        due("11: hour", x.demand(2, 1), BAD);
        due("11: hour", x.demand(-1, 1), BAD);
        due("11: no day", new UnitHours().demand(0, 0), BAD);
        due("12: reserve", x.reserve(20), 1);
        due("12: reserve", x.reserve(0), 20);
        due("12: it is", x.plan(4), 0);
        due("12: v", x.reserve(21), BAD);
        due("12: v", x.reserve(-1), BAD);
        due("12: no day", new UnitHours().reserve(21), STATE);
        due("13: price", x.price(0, 9), 3);
        due("13: price", x.price(0, 1), 9);
        due("13: it is", x.unit(0, 2), 1);
        due("13: the other", x.unit(1, 2), 2);
        due("13: v", x.price(0, 0), BAD);
        due("13: v", x.price(0, 10), BAD);
        due("13: unit", x.price(2, 1), BAD);
        due("13: unit", x.price(-1, 1), BAD);
        due("13: no day", new UnitHours().price(0, 1), BAD);
        due("11 to 13: acts", x.count(4), 6);
    }

    private static void become() {
        UnitHours x = Check.withDay(TWO);
        x.layBest();
        due("14: become", x.become(1, 1), 2);
        due("14: it is", x.kind(1), 1);
        due("14: its start costs all", x.plan(0), 42);
        due("14: it is that", x.become(1, 1), STATE);
        due("14: become", x.become(1, 5), 1);
        due("14: become", x.become(1, 4), 5);
        due("14: its start costs nothing", x.plan(0), 35);
        due("14: become", x.become(1, 3), 4);
        due("14: a slow one starts low", x.hour(0, 3), 7);
        due("14: kind", x.become(1, 0), BAD);
        due("14: kind", x.become(1, 6), BAD);
        due("14: unit", x.become(2, 1), BAD);
        due("14: unit", x.become(-1, 1), BAD);
        due("14: no day", new UnitHours().become(0, 1), BAD);
        due("14: acts", x.count(4), 5);
    }

    private static void undo() {
        UnitHours x = Check.withDay(TWO);
        due("15: none", x.undo(), STATE);
        for (int k = 1; k <= 20; k++) {
            x.demand(0, k);
            due("15: acts", x.count(4), Math.min(k, 16));
        }
        for (int k = 15; k >= 0; k--) {
            due("15: undo", x.undo(), k);
            due("15: demand", x.hour(0, 0), k + 4);
        }
        due("15: none", x.undo(), STATE);
        due("15: the oldest are forgotten", x.hour(0, 0), 4);
        due("15: no day", new UnitHours().undo(), STATE);
        x.demand(0, 9);
        x.demand(0, 9);
        due("15: the same value is an act too", x.count(4), 2);
    }

    private static void undoOfEachAct() {
        UnitHours x = Check.withDay(TWO);
        x.run(0, 1);
        x.layBest();
        x.demand(0, 7);
        x.reserve(3);
        x.price(1, 8);
        x.become(0, 3);
        due("15: undo become", x.undo(), 5);
        due("15: kind", x.kind(0), 1);
        due("15: price stays", x.unit(1, 2), 8);
        due("15: undo price", x.undo(), 4);
        due("15: price", x.unit(1, 2), 2);
        due("15: undo reserve", x.undo(), 3);
        due("15: reserve", x.plan(4), 1);
        due("15: undo demand", x.undo(), 2);
        due("15: demand", x.hour(0, 0), 5);
        due("15: cost", x.plan(0), 38);
        due("15: best", x.best(-1), 38);
        due("15: undo layBest", x.undo(), 1);
        due("15: on", x.unit(0, 6), 1);
        due("15: on", x.unit(1, 6), 0);
        due("15: undo run", x.undo(), 0);
        due("15: on", x.unit(0, 6), 0);
    }

    private static void unit() {
        UnitHours x = Check.withDay("v0;h1;h1;h1;h1;h1;h1;p3,9,2,7,2,3;");
        x.run(0, 0b110011);
        CHECK.dueAll("16: unit", new long[] {x.unit(0, 0), x.unit(0, 1), x.unit(0, 2), x.unit(0, 3), x.unit(0, 4),
            x.unit(0, 5), x.unit(0, 6), x.unit(0, 7), x.unit(0, 8)}, 3, 9, 2, 7, 2, 3, 0b110011, 0b010001, 0);
        due("16: what", x.unit(0, -1), BAD);
        due("16: what", x.unit(0, 9), BAD);
        due("16: unit", x.unit(1, 0), BAD);
        due("16: unit", x.unit(-1, 0), BAD);
        due("16: no day", new UnitHours().unit(0, 0), BAD);
    }

    /** UP 2, DOWN 3: rows of on and off at the start, in between, and at the end. */
    private static void keeps() {
        UnitHours x = Check.withDay("v0;h1;h1;h1;h1;h1;h1;p3,9,2,7,2,3;");
        int[] keeping = {0b000000, 0b000011, 0b110000, 0b100000, 0b000110, 0b011110, 0b100011, 0b111111, 0b111000};
        int[] breaking = {0b000001, 0b010000, 0b000010, 0b110011, 0b010001, 0b100110, 0b100001, 0b101111, 0b110111};
        for (int on : keeping) {
            x.run(0, on);
            due("16: keeps " + Integer.toBinaryString(on), x.unit(0, 8), 1);
            due("19: keeps", x.plan(2), 0);
        }
        for (int on : breaking) {
            x.run(0, on);
            due("16: keeps " + Integer.toBinaryString(on), x.unit(0, 8), 0);
            due("19: keeps", x.plan(2), 1);
        }
        x.become(0, 5);
        for (int on = 0; on < 64; on++) {
            x.run(0, on);
            due("16: a river keeps", x.unit(0, 8), on == 63 ? 1 : 0);
        }
    }

    private static void hour() {
        UnitHours x = Check.withDay("v2;h9;h13;p4,6,3,4,1,1;s3,8,2,7,1,1;w5,7,1,1,1,1;r6,9,1,1,1,1;");
        x.run(0, 3);
        x.run(1, 3);
        long[] first = {x.hour(0, 0), x.hour(0, 1), x.hour(0, 2), x.hour(0, 3), x.hour(0, 4)};
        CHECK.dueAll("17: a slow one starts", first, 9, 3, 7, 9, 0);
        long[] second = {x.hour(1, 0), x.hour(1, 1), x.hour(1, 2), x.hour(1, 3), x.hour(1, 4)};
        CHECK.dueAll("17: it has started", second, 13, 3, 7, 14, 0);
        x.run(2, 3);
        due("17: water has no floor", x.hour(0, 2), 7);
        due("17: its roof", x.hour(0, 3), 16);
        due("17: met", x.hour(0, 4), 1);
        due("17: met", x.hour(1, 4), 1);
        x.run(3, 2);
        due("17: a river has no floor", x.hour(1, 2), 7);
        due("17: its roof", x.hour(1, 3), 30);
        due("17: all are on", x.hour(1, 1), 15);
        x.demand(1, 7);
        due("17: floors are demand", x.hour(1, 4), 1);
        x.demand(1, 6);
        due("17: floors are more", x.hour(1, 4), 0);
        x.demand(0, 14);
        due("17: roofs are just enough", x.hour(0, 4), 1);
        x.demand(0, 15);
        due("17: reserve lacks", x.hour(0, 4), 0);
        due("17: what", x.hour(0, -1), BAD);
        due("17: what", x.hour(0, 5), BAD);
        due("17: hour", x.hour(2, 0), BAD);
        due("17: hour", x.hour(-1, 0), BAD);
        due("17: no day", new UnitHours().hour(0, 0), BAD);
    }

    private static void gives() {
        UnitHours x = Check.withDay("v0;h13;h16;p4,6,3,4,1,1;s3,8,2,7,1,1;w5,7,3,1,1,1;p0,9,9,0,1,1;");
        x.run(0, 3);
        x.run(1, 3);
        x.run(2, 3);
        long[] first = {x.gives(0, 0), x.gives(1, 0), x.gives(2, 0), x.gives(3, 0)};
        CHECK.dueAll("18: of like price the lesser number", first, 6, 3, 4, 0);
        long[] second = {x.gives(0, 1), x.gives(1, 1), x.gives(2, 1), x.gives(3, 1)};
        CHECK.dueAll("18: cheapest first", second, 6, 8, 2, 0);
        x.price(2, 1);
        long[] third = {x.gives(0, 1), x.gives(1, 1), x.gives(2, 1), x.gives(3, 1)};
        CHECK.dueAll("18: another price", third, 4, 5, 7, 0);
        x.demand(1, 22);
        due("18: not met", x.gives(0, 1), NONE);
        due("18: not met, off", x.gives(3, 1), NONE);
        due("18: unit", x.gives(4, 0), BAD);
        due("18: unit", x.gives(-1, 0), BAD);
        due("18: hour", x.gives(0, 2), BAD);
        due("18: hour", x.gives(0, -1), BAD);
        due("18: no day", new UnitHours().gives(0, 0), BAD);
    }

    private static void plan() {
        UnitHours x = Check.withDay("v1;h5;h8;h5;p2,6,3,4,1,1;q1,5,2,7,1,1;");
        due("19: cost", x.plan(0), NONE);
        due("19: not met", x.plan(1), 7);
        due("19: keeping", x.plan(2), 0);
        due("19: starts", x.plan(3), 0);
        due("19: reserve", x.plan(4), 1);
        x.run(0, 7);
        x.run(1, 2);
        due("19: met", x.plan(1), 0);
        due("19: starts", x.plan(3), 2);
        due("19: cost, half of an odd start", x.plan(0), 15 + 4 + 19 + 3 + 15);
        x.run(0, 5);
        due("19: not met", x.plan(1), 2);
        due("19: starts", x.plan(3), 3);
        x.run(0, 7);
        x.become(1, 5);
        due("19: a river that breaks its hours", x.plan(2), 2);
        due("19: no cost", x.plan(0), NONE);
        x.run(1, 7);
        due("19: a river that keeps them", x.plan(2), 0);
        due("19: all hours are met", x.plan(1), 0);
        due("19: a river starts for nothing", x.plan(0), 4 + 2 * (2 * 3 + 3 * 2) + 19);
        due("19: its start counts", x.plan(3), 2);
        due("19: what", x.plan(-1), BAD);
        due("19: what", x.plan(5), BAD);
        due("19: no day", new UnitHours().plan(9), STATE);
    }
}
