import java.util.List;

/** 'Terms', its first lines and part 1, sentence by sentence, at their edges. */
public final class TermsTest {
    private static final int BAD = Sentences.BAD, STATE = Sentences.STATE, FULL = Sentences.FULL;
    private static final int NULL = Sentences.NULL, PLACE = Sentences.PLACE, KIND = Sentences.KIND;
    private static final int SIZE = Sentences.SIZE, STORE = Sentences.STORE;
    private static final int LEAST = Sentences.LEAST, MOST = Sentences.MOST;
    private static final String UNIT = "p0,0,1,0,1,1;";
    private static final String LONGEST = "v20;h60;h60;h60;h60;h60;h60;" + "p20,30,09,40,03,03;".repeat(4);

    public static void main(String[] args) {
        Sentences.runAll(TermsTest.class, "t0", "t1");
    }

    private static void due(String call, long got, long want) {
        Sentences.due(call, got, want);
    }

    // ---- the first lines: refusals

    private static void t0_theNumbersOfRefusals() {
        due("NONE", UnitHours.NONE, -1000000);
        due("BAD", UnitHours.BAD, -1000001);
        due("STATE", UnitHours.STATE, -1000002);
        due("FULL", UnitHours.FULL, -1000003);
        UnitHours x = Sentences.day(Sentences.TWO);
        x.row(1, 0, 1);
        x.row(2, 1, 1);
        due("NULL", x.set(0, 0, 0), -1000011);
        due("its number", x.status(), 1);
        due("PLACE", x.set(1, 1, 0), -1000012);
        due("its number", x.status(), 2);
        due("KIND", x.as(0, 2), -1000013);
        due("its number", x.status(), 3);
        due("SIZE", x.row(0, 0, -1), -1000014);
        due("its number", x.status(), 4);
        due("STORE", x.copy(1, 0, 2, 0, 1), -1000015);
        due("its number", x.status(), 5);
    }

    private static void t0_badAheadOfState() {
        UnitHours x = Sentences.none();
        due("image, no day", x.image(2), BAD);
        due("image, no day", x.image(-1), BAD);
        due("restore, none was kept", x.restore(2), BAD);
        due("restore, none was kept", x.restore(-1), BAD);
        UnitHours y = Sentences.day(Sentences.TWO);
        due("run, no such unit", y.run(2, 0), BAD);
        due("become, no such unit", y.become(2, 1), BAD);
    }

    private static void t0_badAheadOfFull() {
        UnitHours x = Sentences.none();
        Check.feedText(x, "x".repeat(120));
        due("feed", x.feed(256), BAD);
        due("feed", x.feed(-1), BAD);
        due("feed", x.feed(255), FULL);
        due("feed", x.feed(0), FULL);
    }

    private static void t0_stateAheadOfBadWhereTold() {
        UnitHours x = Sentences.none();
        for (int bad : new int[] {LEAST, -3, 21, 100000, MOST}) {
            due("reserve", x.reserve(bad), STATE);
            due("plan", x.plan(bad), STATE);
            due("best", x.best(bad), STATE);
            due("bound", x.bound(bad, 0), STATE);
            due("moved", x.moved(bad, 0), STATE);
            due("moved", x.moved(0, bad), STATE);
            due("gap", x.gap(bad), STATE);
            due("who", x.who(bad, 0, 0), STATE);
            due("who", x.who(0, bad, 0), STATE);
            due("who", x.who(0, 0, bad), STATE);
            due("drawn", x.drawn(bad, 1, 0), STATE);
            due("drawn", x.drawn(0, 0, bad), STATE);
            due("drawn", x.drawn(0, 1, bad), STATE);
        }
        due("layBest", x.layBest(), STATE);
        due("wanted", x.wanted(), STATE);
        due("image", x.image(0), STATE);
        due("undo", x.undo(), STATE);
    }

    private static void t0_badWithoutDayWhereNoStateIsTold() {
        UnitHours x = Sentences.none();
        x.row(0, 2, 6);
        due("run", x.run(0, 1), BAD);
        due("demand", x.demand(0, 1), BAD);
        due("price", x.price(0, 1), BAD);
        due("become", x.become(0, 1), BAD);
        due("unit", x.unit(0, 0), BAD);
        due("hour", x.hour(0, 0), BAD);
        due("gives", x.gives(0, 0), BAD);
        due("alone", x.alone(0, 0, 0, -2), BAD);
        due("more", x.more(0), BAD);
        due("fits", x.fits(0, 0, 1), BAD);
        due("kind", x.kind(0), BAD);
        due("as", x.as(0, 0), BAD);
        due("ask", x.ask(0, 0), BAD);
        due("status", x.status(), 0);
    }

    private static void t0_badAheadOfFindings() {
        UnitHours x = Sentences.day(Sentences.TWO);
        x.row(1, 0, 1);
        due("row, lane and size", x.row(0, 3, -1), BAD);
        due("row and size", x.row(8, 0, -1), BAD);
        due("set, row and place", x.set(8, -1, 0), BAD);
        due("copy, row and missing", x.copy(0, 0, 8, 0, 1), BAD);
        due("alone, what and missing", x.alone(0, 0, 0, 2), BAD);
        due("alone, unit and place", x.alone(2, 1, 0, 0), BAD);
        due("alone, what and place", x.alone(0, 1, 0, -3), BAD);
        due("fits, n and missing", x.fits(0, 0, 0), BAD);
        due("fits, n and place", x.fits(0, 1, 3), BAD);
        due("fits, unit and missing", x.fits(2, 0, 1), BAD);
        due("as, unit and kind", x.as(2, 5), BAD);
        due("no finding", x.status(), 0);
    }

    private static void t0_stateAheadOfFindings() {
        UnitHours x = Sentences.none();
        due("bound of a missing row", x.bound(0, 0), STATE);
        x.row(0, 2, 1);
        due("bound of no such place", x.bound(0, 5), STATE);
        due("no finding", x.status(), 0);
    }

    private static void t0_ofFindingsTheFirstInTime() {
        UnitHours x = Sentences.day(Sentences.TWO);
        x.row(1, 0, 1);
        x.row(2, 1, 1);
        due("set: NULL, PLACE", x.set(0, -1, 0), NULL);
        due("copy: NULL, STORE, PLACE", x.copy(1, 9, 0, 9, 9), NULL);
        due("copy: STORE, PLACE", x.copy(1, 9, 2, 9, 9), STORE);
        due("copy: PLACE", x.copy(1, 9, 1, 9, 9), PLACE);
        due("alone: NULL, PLACE", x.alone(0, 0, -1, 0), NULL);
        due("bound: NULL, PLACE", x.bound(0, -1), NULL);
        due("alone: PLACE", x.alone(0, 1, -1, 0), PLACE);
        due("bound: PLACE", x.bound(1, -1), PLACE);
        due("fits: PLACE", x.fits(0, 1, 2), PLACE);
    }

    /** Each call that can be refused, by its number; what it answers. */
    private static long refused(UnitHours x, int k) {
        switch (k) {
            case 0: return x.row(8, 0, 1);
            case 1: return x.row(0, 3, 1);
            case 2: return x.row(0, 0, 41);
            case 3: return x.set(8, 0, 1);
            case 4: return x.copy(8, 0, 0, 0, 1);
            case 5: return x.copy(0, 0, -1, 0, 1);
            case 6: return x.drop(8);
            case 7: return x.feed(256);
            case 8: return x.run(4, 1);
            case 9: return x.run(0, 64);
            case 10: return x.run(0, x.unit(0, 6));
            case 11: return x.demand(6, 1);
            case 12: return x.demand(0, 61);
            case 13: return x.reserve(21);
            case 14: return x.price(4, 1);
            case 15: return x.price(0, 10);
            case 16: return x.become(4, 1);
            case 17: return x.become(0, 6);
            case 18: return x.become(0, Math.max(1, x.kind(0)));
            case 19: return x.unit(0, 9);
            case 20: return x.hour(0, 5);
            case 21: return x.gives(4, 0);
            case 22: return x.plan(5);
            case 23: return x.best(6);
            case 24: return x.alone(0, 2, 0, 6);
            case 25: return x.bound(8, 0);
            case 26: return x.moved(13, 0);
            case 27: return x.gap(13);
            case 28: return x.more(6);
            case 29: return x.who(4, 0, 0);
            case 30: return x.fits(0, 2, 7);
            case 31: return x.drawn(9, 1, 0);
            case 32: return x.image(2);
            case 33: return x.restore(2);
            case 34: return x.kind(4);
            case 35: return x.as(0, 6);
            case 36: return x.ask(0, 2);
            case 37: return x.ask(4, 0);
            case 38: return x.count(6);
            default: return x.demand(0, -1);
        }
    }

    private static void t0_whatIsRefusedChangesNothing() {
        List<Long> want = Twins.seen(Twins.rich());
        for (int k = 0; k < 40; k++) {
            UnitHours x = Twins.rich();
            long answer = refused(x, k);
            Sentences.holds("call " + k + " is refused", answer == BAD || answer == STATE);
            due("status behind call " + k, x.status(), 3);
            Sentences.holds("call " + k + " changes nothing", Twins.seen(x).equals(want));
        }
    }

    private static void t0_whatIsRefusedWithoutDayChangesNothing() {
        List<Long> want = Twins.seen(Twins.bare());
        for (int k = 0; k < 40; k++) {
            UnitHours x = Twins.bare();
            long answer = refused(x, k);
            Sentences.holds("call " + k + " is refused", answer == BAD || answer == STATE);
            due("status behind call " + k, x.status(), 1);
            Sentences.holds("call " + k + " changes nothing", Twins.seen(x).equals(want));
        }
    }

    private static void t0_fullChangesNothing() {
        UnitHours x = Sentences.none();
        Check.feedText(x, "v0;h1;p0,0,1,0,1,1;" + "x".repeat(101));
        due("feed", x.feed('v'), FULL);
        due("the tape", x.count(5), 120);
        due("what was fed is read", x.day(), -1000119);
    }

    /** Each call that can find something, by its number; what it finds. */
    private static long finding(UnitHours x, int k) {
        switch (k) {
            case 0: return x.row(0, 0, -1);
            case 1: return x.set(7, 0, 1);
            case 2: return x.set(0, 3, 1);
            case 3: return x.copy(0, 0, 7, 0, 1);
            case 4: return x.copy(0, 0, 1, 0, 1);
            case 5: return x.copy(2, 0, 3, 0, 1);
            case 6: return x.drop(7);
            case 7: return x.alone(0, 7, 0, 0);
            case 8: return x.alone(0, 2, 2, 0);
            case 9: return x.bound(7, 0);
            case 10: return x.bound(2, 2);
            case 11: return x.fits(0, 7, 1);
            case 12: return x.fits(0, 0, 4);
            case 13: return x.row(5, 0, LEAST);
            default: return x.as(1, 5);
        }
    }

    private static void t0_whatIsFoundChangesNothingButStatus() {
        int[] due = {4, 1, 2, 1, 5, 2, 1, 1, 2, 1, 2, 1, 2, 4, 3};
        List<Long> want = Twins.seen(Twins.rich());
        for (int k = 0; k < due.length; k++) {
            UnitHours x = Twins.rich();
            due("finding " + k, finding(x, k), -1000010 - due[k]);
            due("status behind finding " + k, x.status(), due[k]);
            Sentences.holds("finding " + k + " changes nothing else", Twins.seen(x).equals(want));
        }
    }

    /** A rich twin that is not the same shows that the twins can tell. */
    private static void t0_twinsSeeWhatChanges() {
        List<Long> want = Twins.seen(Twins.rich());
        for (int k = 0; k < 13; k++) {
            UnitHours x = Twins.rich();
            long answer = change(x, k);
            Sentences.holds("change " + k + " answers " + answer, answer >= 0);
            Sentences.holds("change " + k + " is seen", !Twins.seen(x).equals(want));
        }
    }

    private static long change(UnitHours x, int k) {
        switch (k) {
            case 0: return x.row(3, 1, 0) + x.row(3, 2, 1);
            case 1: return x.set(2, 5, 1);
            case 2: return x.copy(2, 0, 2, 4, 1);
            case 3: return x.drop(3);
            case 4: return x.feed('0');
            case 5: return x.run(2, 1 ^ x.unit(2, 6));
            case 6: return x.demand(5, 3);
            case 7: return x.reserve(5);
            case 8: return x.price(1, 9);
            case 9: return x.become(2, 1);
            case 10: return x.undo();
            case 11: return x.image(1);
            default: return x.ask(3, 1);
        }
    }

    private static void t0_whatIsDividedIsCutTowardsZero() {
        String[] starts = {"0", "1", "2", "7", "39", "40"};
        int[] half = {0, 0, 1, 3, 19, 20};
        for (int k = 0; k < starts.length; k++) {
            UnitHours x = Sentences.day("v0;h0;q0,1,1," + starts[k] + ",1,1;");
            x.run(0, 1);
            due("half of " + starts[k], x.plan(0), half[k]);
        }
    }

    // ---- part 1: rows

    private static void t1_rowsAreMissingAtFirst() {
        UnitHours x = Sentences.day(Sentences.READER);
        for (int r = 0; r < 8; r++) {
            due("set", x.set(r, 0, 0), NULL);
            due("bound", x.bound(r, 0), NULL);
        }
    }

    private static void t1_aRowOfNoItems() {
        UnitHours x = Sentences.day(Sentences.READER);
        for (int lane = 0; lane < 3; lane++) {
            due("row", x.row(lane, lane, 0), 0);
            due("it is there", x.count(0), lane + 1);
            due("set", x.set(lane, 0, 1), PLACE);
            due("set", x.set(lane, -1, 1), PLACE);
            due("copy of none", x.copy(lane, 0, lane, 0, 0), 0);
            due("copy of one", x.copy(lane, 0, lane, 0, 1), PLACE);
            due("bound", x.bound(lane, 0), PLACE);
            due("alone", x.alone(0, lane, 0, 0), PLACE);
            due("fits", x.fits(0, lane, 1), PLACE);
        }
        due("drop", x.drop(0), 0);
        due("then it is missing", x.drop(0), NULL);
    }

    private static void t1_aRowOf40Items() {
        for (int lane = 0; lane < 3; lane++) {
            UnitHours x = Sentences.day(Sentences.READER);
            due("row", x.row(7, lane, 40), 40);
            Sentences.dueAll("0 at first", Sentences.items(x, 7, 40), new long[40]);
            due("the first", x.set(7, 0, 3), 3);
            due("the last", x.set(7, 39, 4), 4);
            due("one more", x.set(7, 40, 5), PLACE);
            due("the last", x.bound(7, 39), 4);
            due("one more", x.bound(7, 40), PLACE);
            due("the last", x.alone(0, 7, 39, -1), 0);
            due("one more", x.alone(0, 7, 40, -1), PLACE);
            due("copy", x.copy(7, 0, 7, 39, 1), 1);
            due("the last", x.bound(7, 39), 3);
            due("drop", x.drop(7), 40);
        }
        due("41", Sentences.none().row(7, 0, 41), BAD);
    }

    // ---- part 1: texts

    private static void t1_theEmptyTape() {
        UnitHours x = Sentences.none();
        due("day", x.day(), -1000100);
        due("fault", x.fault(), 1);
        UnitHours y = Sentences.day(Sentences.TWO);
        due("day", y.day(), -1000100);
        due("the day stays", y.count(1), 2);
    }

    private static void t1_theTapeOf120Bytes() {
        UnitHours x = Sentences.none();
        due("the longest day", LONGEST.length(), 104);
        for (int k = 0; k < 104; k++) {
            due("feed", x.feed(LONGEST.charAt(k)), k + 1);
        }
        for (int k = 104; k < 120; k++) {
            due("feed", x.feed('r'), k + 1);
        }
        due("one more", x.feed('r'), FULL);
        due("one more", x.feed(','), FULL);
        due("120 bytes", x.count(5), 120);
        due("a unit more than there is room for", x.day(), -1000204);
        due("fault", x.fault(), 3);
        due("empty", x.count(5), 0);
        due("feed", x.feed('v'), 1);
        due("then it is read from the first on", x.day(), -1000101);
    }

    private static void t1_allBytesOnAFullTape() {
        for (int b : new int[] {0, ' ', '0', ',', 'h', 'r', 'v', 255}) {
            UnitHours x = Sentences.none();
            Check.feedText(x, LONGEST + ("" + (char) b).repeat(16));
            due("byte " + b, x.day(), -1000204);
            due("fault of byte " + b, x.fault(), b == 'r' ? 3 : 1);
        }
    }

    private static void t1_theLongestDay() {
        UnitHours x = Sentences.day(LONGEST);
        due("hours", x.count(2), 6);
        due("units", x.count(1), 4);
        due("demands", x.count(3), 360);
        due("reserve", x.plan(4), 20);
        for (int u = 0; u < 4; u++) {
            Sentences.dueAll("unit " + u, new long[] {x.unit(u, 0), x.unit(u, 1), x.unit(u, 2), x.unit(u, 3),
                x.unit(u, 4), x.unit(u, 5)}, 20, 30, 9, 40, 3, 3);
        }
    }

    private static void t1_numbersOfOneAndTwoFigures() {
        UnitHours x = Sentences.day("v00;h07;h7;p00,09,01,08,02,03;p0,9,1,8,2,3;");
        due("reserve", x.plan(4), 0);
        due("demands", x.hour(0, 0), 7);
        due("demands", x.hour(1, 0), 7);
        for (int w = 0; w < 6; w++) {
            due("unit " + w, x.unit(0, w), x.unit(1, w));
        }
        UnitHours y = Sentences.day("v10;h10;h59;p10,29,5,39,2,2;");
        due("reserve", y.plan(4), 10);
        due("demand", y.hour(0, 0), 10);
        due("demand", y.hour(1, 0), 59);
        Sentences.dueAll("unit", new long[] {y.unit(0, 0), y.unit(0, 1), y.unit(0, 3)}, 10, 29, 39);
    }

    private static void t1_threeFiguresAreNoToken() {
        String[] ahead = {"v", "v0;h", "v0;h0;p", "v0;h0;p0,", "v0;h0;p0,0,", "v0;h0;p0,0,1,", "v0;h0;p0,0,1,0,",
            "v0;h0;p0,0,1,0,1,", "v0;h0;h", "v0;h0;" + UNIT + "w"};
        for (String a : ahead) {
            Sentences.read(a + "001;", 1, a.length());
            Sentences.read(a + "001", 1, a.length());
            Sentences.read(a + "999,", 1, a.length());
            Sentences.read(a + "0000,", 1, a.length());
            Sentences.read(a + "1234567890", 1, a.length());
        }
    }

    private static void t1_threeFiguresWhereNoNumberCanStand() {
        Sentences.read("123", 1, 0);
        Sentences.read("v0;123", 1, 3);
        Sentences.read("v0;h0;123", 1, 6);
        Sentences.read("v0;h0;" + UNIT + "123", 1, 19);
        Sentences.read("v0;h0;12", 1, 6);
        Sentences.read("v0;h0;" + UNIT + "1", 1, 19);
    }

    /** A number of a day, the least and the greatest that it may be, and one less, one more. */
    private static void edges(String ahead, int least, int most, String behind) {
        Sentences.read(ahead + least + behind, 0, 1);
        Sentences.read(ahead + most + behind, 0, 1);
        if (least > 0) {
            Sentences.read(ahead + (least - 1) + behind, 2, ahead.length());
        }
        Sentences.read(ahead + (most + 1) + behind, 2, ahead.length());
        Sentences.read(ahead + 99 + behind, 2, ahead.length());
        Sentences.read(ahead + (most + 1), 2, ahead.length());
    }

    private static void t1_reserve0To20() {
        edges("v", 0, 20, ";h0;" + UNIT);
    }

    private static void t1_demand0To60() {
        edges("v0;h", 0, 60, ";" + UNIT);
        edges("v0;h0;h0;h0;h0;h0;h", 0, 60, ";" + UNIT);
    }

    private static void t1_low0To20() {
        edges("v0;h0;p", 0, 20, ",20,1,0,1,1;");
    }

    private static void t1_highLowTo30() {
        edges("v0;h0;p0,", 0, 30, ",1,0,1,1;");
        edges("v0;h0;q1,", 1, 30, ",1,0,1,1;");
        edges("v0;h0;s20,", 20, 30, ",1,0,1,1;");
        edges("v0;h0;w7,", 7, 30, ",1,0,1,1;");
        edges("v0;h0;r7,", 7, 30, ",1,0,1,1;");
    }

    private static void t1_price1To9() {
        edges("v0;h0;p0,0,", 1, 9, ",0,1,1;");
    }

    private static void t1_start0To40() {
        edges("v0;h0;p0,0,1,", 0, 40, ",1,1;");
        edges("v0;h0;w0,0,1,", 0, 40, ",1,1;");
    }

    private static void t1_up1To3() {
        edges("v0;h0;p0,0,1,0,", 1, 3, ",1;");
        edges("v0;h0;r0,0,1,0,", 1, 3, ",1;");
    }

    private static void t1_down1To3() {
        edges("v0;h0;p0,0,1,0,1,", 1, 3, ";");
        edges("v0;h0;r0,0,1,0,1,", 1, 3, ";");
    }

    private static void t1_numbersOfTheLastUnit() {
        String ahead = "v0;h0;" + UNIT + UNIT + UNIT;
        Sentences.read(ahead + "s20,30,9,40,3,3;", 0, 4);
        Sentences.read(ahead + "s21,30,9,40,3,3;", 2, 46);
        Sentences.read(ahead + "s20,19,9,40,3,3;", 2, 49);
        Sentences.read(ahead + "s20,31,9,40,3,3;", 2, 49);
        Sentences.read(ahead + "s20,30,0,40,3,3;", 2, 52);
        Sentences.read(ahead + "s20,30,9,41,3,3;", 2, 54);
        Sentences.read(ahead + "s20,30,9,40,4,3;", 2, 57);
        Sentences.read(ahead + "s20,30,9,40,3,4;", 2, 59);
    }

    private static void t1_oneTo6HoursAndOneMore() {
        for (int n = 0; n <= 6; n++) {
            String hours = "v0;" + "h1;".repeat(n);
            Sentences.read(hours + UNIT, n == 0 ? 1 : 0, n == 0 ? 3 : 1);
        }
        String six = "v0;" + "h1;".repeat(6);
        Sentences.read(six + "h1;" + UNIT, 3, 21);
        Sentences.read(six + "h", 3, 21);
        Sentences.read(six + "hh", 3, 21);
        Sentences.read(six + "h99;", 3, 21);
        Sentences.read(six + "v", 1, 21);
        Sentences.read(six, 1, 21);
    }

    private static void t1_oneTo4UnitsAndOneMore() {
        String ahead = "v0;h1;";
        Sentences.read(ahead, 1, 6);
        for (int n = 1; n <= 4; n++) {
            Sentences.read(ahead + UNIT.repeat(n), 0, n);
        }
        for (char sort : "pqswr".toCharArray()) {
            Sentences.read(ahead + UNIT.repeat(4) + sort, 3, 58);
            Sentences.read(ahead + UNIT.repeat(4) + sort + "0,0,1,0,1,1;", 3, 58);
        }
        for (char other : "vhx,;0".toCharArray()) {
            Sentences.read(ahead + UNIT.repeat(4) + other, 1, 58);
        }
    }

    private static void t1_theFifthUnitBehindSixHours() {
        Sentences.read("v0;" + "h1;".repeat(6) + UNIT.repeat(4), 0, 4);
        Sentences.read("v0;" + "h1;".repeat(6) + UNIT.repeat(5), 3, 73);
        Sentences.read("v0;" + "h1;".repeat(6) + UNIT.repeat(4) + "h", 1, 73);
    }

    private static void t1_faultsAtTheFirstByte() {
        for (int b = 0; b < 256; b++) {
            UnitHours x = Sentences.none();
            x.feed(b);
            Check.feedText(x, "0;h0;" + UNIT);
            due("byte " + b, x.day(), b == 'v' ? 1 : -1000100);
            due("fault of byte " + b, x.fault(), b == 'v' ? 0 : 1);
        }
    }

    /** Each text that ends too soon has its fault at the end. */
    private static void t1_faultsAtTheEnd() {
        String text = "v20;h60;h5;s2,30,9,40,3,3;w0,0,1,0,1,1;";
        for (int n = 0; n < text.length(); n++) {
            if (n == 26) {
                Sentences.read(text.substring(0, n), 0, 1);
            } else {
                Sentences.read(text.substring(0, n), 1, n);
            }
        }
        Sentences.read(text, 0, 2);
    }

    /** A text with another byte in one place; its fault, or 0 and how many units. */
    private static void withByte(int at, int b, int number, int place) {
        String text = "v0;h0;p0,0,1,0,1,1;";
        UnitHours x = Sentences.none();
        Check.feedText(x, text.substring(0, at) + (char) b + text.substring(at + 1));
        due("byte " + b + " at " + at, x.day(), number == 0 ? place : -1000100 - place);
        due("fault of byte " + b + " at " + at, x.fault(), number);
    }

    private static void t1_eachByteInPlaceOfALetter() {
        for (int b = 0; b < 256; b++) {
            withByte(0, b, b == 'v' ? 0 : 1, b == 'v' ? 1 : 0);
            withByte(3, b, b == 'h' ? 0 : 1, b == 'h' ? 1 : 3);
            boolean isSort = "pqswr".indexOf(b) >= 0;
            // one hour more could stand there: then it is the sign behind its number that cannot
            withByte(6, b, isSort ? 0 : 1, isSort ? 1 : b == 'h' ? 8 : 6);
        }
    }

    private static void t1_eachByteInPlaceOfASign() {
        for (int at : new int[] {2, 5, 8, 10, 12, 14, 16, 18}) {
            int due = at == 2 || at == 5 || at == 18 ? ';' : ',';
            for (int b = 0; b < 256; b++) {
                if (b == due) {
                    withByte(at, b, 0, 1);
                } else if (b < '0' || b > '9') {
                    withByte(at, b, 1, at);
                } else if (at == 18) {
                    // the last number becomes 10 or more
                    withByte(at, b, 2, 17);
                } else {
                    // a number of two figures, and a letter behind it; or a run of three figures
                    withByte(at, b, 1, at < 6 ? at + 1 : at - 1);
                }
            }
        }
    }

    private static void t1_eachByteInPlaceOfANumber() {
        for (int at : new int[] {1, 4, 7, 9, 11, 13, 15, 17}) {
            for (int b = 0; b < 256; b++) {
                int v = b - '0';
                if (v < 0 || v > 9) {
                    withByte(at, b, 1, at);
                } else if (at == 7 && v > 0) {
                    // HIGH is less than LOW then
                    withByte(at, b, 2, 9);
                } else if (at == 11 && v < 1 || at >= 15 && (v < 1 || v > 3)) {
                    withByte(at, b, 2, at);
                } else {
                    withByte(at, b, 0, 1);
                }
            }
        }
    }

    private static void t1_ofOneTokenTheLeast() {
        Sentences.read("v0;h0;h0;h0;h0;h0;h0;h0;", 3, 21);
        Sentences.read("v0;h0;p21,99,", 2, 7);
        Sentences.read("v100;h99;", 1, 1);
        Sentences.read("v99;h100;", 2, 1);
    }

    private static void t1_theFirstTokenThatHasOne() {
        Sentences.read("v21;h61;p", 2, 1);
        Sentences.read("v20;h61;p", 2, 5);
        Sentences.read("v20;h60;x61", 1, 8);
        Sentences.read("v0;h0;p5,4,0,41,0,0;", 2, 9);
        Sentences.read("v0;h0;p5,5,0,41,0,0;", 2, 11);
        Sentences.read("v0;h0;p5,5,1,41,0,0;", 2, 13);
        Sentences.read("v0;h0;p5,5,1,40,0,0;", 2, 16);
        Sentences.read("v0;h0;p5,5,1,40,1,0;", 2, 18);
        Sentences.read("v0;h0;p5,5,1,40,1,1", 1, 19);
    }

    private static void t1_noBlanks() {
        Sentences.read(" v0;h0;" + UNIT, 1, 0);
        Sentences.read("v 0;h0;" + UNIT, 1, 1);
        Sentences.read("v0 ;h0;" + UNIT, 1, 2);
        Sentences.read("v0; h0;" + UNIT, 1, 3);
        Sentences.read("v0;h0; " + UNIT, 1, 6);
        Sentences.read("v0;h0;" + UNIT + " ", 1, 19);
        Sentences.read("v0;h0;" + UNIT + "\n", 1, 19);
    }

    private static void t1_hoursAheadOfUnits() {
        Sentences.read("v0;" + UNIT, 1, 3);
        Sentences.read("v0;h0;" + UNIT + "h0;", 1, 19);
        Sentences.read("h0;v0;" + UNIT, 1, 0);
        Sentences.read("v0;v0;h0;" + UNIT, 1, 3);
        Sentences.read("v0;h0;v0;" + UNIT, 1, 6);
    }

    private static void t1_theSorts() {
        for (int k = 0; k < 5; k++) {
            UnitHours x = Sentences.day("v0;h0;" + "pqswr".charAt(k) + "0,0,1,0,1,1;");
            due("kind of " + "pqswr".charAt(k), x.kind(0), k + 1);
        }
        for (char c = 'a'; c <= 'z'; c++) {
            if ("hpqswr".indexOf(c) < 0) {
                Sentences.read("v0;h0;" + c + "0,0,1,0,1,1;", 1, 6);
            }
        }
        Sentences.read("v0;h0;P0,0,1,0,1,1;", 1, 6);
    }

    private static void t1_aDayStandsInPlaceOfTheOneBefore() {
        UnitHours x = Sentences.day(Sentences.FOUR);
        x.layBest();
        Check.feedText(x, Sentences.TWO);
        due("day", x.day(), 2);
        due("units", x.count(1), 2);
        due("hours", x.count(2), 2);
        due("demands", x.count(3), 13);
        due("reserve", x.plan(4), 1);
        due("no third unit", x.unit(2, 0), BAD);
        due("no third hour", x.hour(2, 0), BAD);
        due("kind", x.kind(1), 2);
        due("best", x.best(-1), 38);
    }

    private static void t1_allUnitsOfANewDayAreOff() {
        UnitHours x = Sentences.day(Sentences.TWO);
        x.run(0, 3);
        x.run(1, 1);
        // what is foretold by a day that is thought of must leave nothing behind
        x.more(0);
        x.who(2, 0, 38);
        Check.feedText(x, Sentences.TWO);
        x.day();
        due("unit 0", x.unit(0, 6), 0);
        due("unit 1", x.unit(1, 6), 0);
        due("hour 0", x.hour(0, 1), 0);
        due("starts", x.plan(3), 0);
        UnitHours y = Sentences.day("v0;h0;r0,0,1,0,1,1;");
        due("a river is off, too", y.unit(0, 6), 0);
    }

    private static void t1_noActOfTheDayBeforeCanBeUndone() {
        UnitHours x = Sentences.day(Sentences.TWO);
        x.run(0, 3);
        x.demand(0, 1);
        Check.feedText(x, Sentences.TWO);
        x.day();
        due("acts", x.count(4), 0);
        due("undo", x.undo(), STATE);
        due("demand", x.hour(0, 0), 5);
    }

    /** The fault has the number of the one before, and the tape gets what it had: so nothing is another. */
    private static void t1_withAFaultAllStays() {
        List<Long> want = Twins.seen(Twins.rich());
        UnitHours x = Twins.rich();
        Check.feedText(x, ";h0;p0,0,1,0,1,0");
        due("day", x.day(), -1000100 - 17);
        due("the tape is empty", x.count(5), 0);
        due("status", x.status(), 3);
        x.feed('v');
        x.feed('7');
        Sentences.holds("all stays", Twins.seen(x).equals(want));
    }

    private static void t1_noCallSeesATextThatHasAFault() {
        List<Long> want = Twins.answers(Sentences.day(Sentences.TWO));
        String[] texts = {"v0;h1;r0,9,1,0,3,3", "v9;h1;r0,9,9,0,3,3;s0,9,9,9,3,3", LONGEST + "p",
            "v0;h0;h0;h0;h0;h0;h0;r0,0,1,0,1,1;r0,0,1,0,1,1;r0,0,1,0,1,1;", "v0;", "v20", "v0;h60;h0"};
        for (String text : texts) {
            UnitHours x = Sentences.day(Sentences.TWO);
            Check.feedText(x, text + ",");
            Sentences.holds("a fault of " + text, x.day() <= -1000100);
            Sentences.holds("answers behind " + text, Twins.answers(x).equals(want));
        }
    }

    private static void t1_noCallSeesTheDayBefore() {
        List<Long> want = Twins.answers(Sentences.day(Sentences.TWO));
        for (String text : new String[] {"v0;h1;r0,9,1,0,3,3;", Sentences.FOUR, LONGEST}) {
            UnitHours x = Sentences.day(text);
            x.layBest();
            x.more(0);
            Check.feedText(x, Sentences.TWO);
            due("day", x.day(), 2);
            Sentences.holds("answers behind " + text, Twins.answers(x).equals(want));
        }
    }

    private static void t1_withAFaultThereIsNoDayStill() {
        UnitHours x = Sentences.none();
        Check.feedText(x, "v0;h0;" + UNIT + "p0,0,1,0,1,9;");
        due("day", x.day(), -1000100 - 30);
        due("units", x.count(1), 0);
        due("hours", x.count(2), 0);
        due("plan", x.plan(4), STATE);
        due("image", x.image(0), STATE);
        due("unit", x.unit(0, 0), BAD);
    }

    private static void t1_findingsAreNoFaults() {
        UnitHours x = Sentences.day(Sentences.TWO);
        due("as", x.as(0, 5), KIND);
        due("row", x.row(0, 0, -1), SIZE);
        due("fault", x.fault(), 0);
    }
}
