import java.util.List;

/** Promises 20 to 31, sentence by sentence, at their edges. */
public final class ForetoldSentencesTest {
    private static final int NONE = Sentences.NONE, BAD = Sentences.BAD, STATE = Sentences.STATE;
    private static final int NULL = Sentences.NULL, PLACE = Sentences.PLACE;
    private static final int LEAST = Sentences.LEAST, MOST = Sentences.MOST;
    private static final String TWO = Sentences.TWO, FOUR = Sentences.FOUR;
    /** No plan is lawful. */
    private static final String HARD = "v0;h60;h1;p0,4,3,0,1,1;w0,4,1,0,1,1;";

    public static void main(String[] args) {
        Sentences.runAll(ForetoldSentencesTest.class, "p20", "p21", "p22", "p23", "p24", "p25", "p26", "p27", "p28",
                "p29", "p30", "p31");
    }

    private static void due(String call, long got, long want) {
        Sentences.due(call, got, want);
    }

    // ---- 20 best

    private static void p20_costAndHours() {
        UnitHours x = Sentences.day(TWO);
        due("cost", x.best(-1), 38);
        due("hour 0", x.best(0), 3);
        due("hour 1", x.best(1), 3);
        UnitHours y = Sentences.day("v0;h0;p1,1,1,1,1,1;");
        due("cost 0", y.best(-1), 0);
        due("none is on", y.best(0), 0);
    }

    private static void p20_none() {
        UnitHours x = Sentences.day(HARD);
        due("cost", x.best(-1), NONE);
        due("hour 0", x.best(0), NONE);
        due("hour 1", x.best(1), NONE);
        due("BAD ahead of NONE", x.best(2), BAD);
        due("BAD ahead of NONE", x.best(-2), BAD);
    }

    private static void p20_edges() {
        UnitHours x = Sentences.day(FOUR);
        Sentences.holds("the last hour", x.best(5) >= 0);
        due("one more", x.best(6), BAD);
        due("-2", x.best(-2), BAD);
        for (int w : Sentences.wild()) {
            due("what " + w, x.best(w), BAD);
            due("no day: what " + w, Sentences.none().best(w), STATE);
        }
        for (int w = -2; w <= 6; w++) {
            due("no day: what " + w, Sentences.none().best(w), STATE);
        }
    }

    private static void p20_theSameWhateverThePlanIs() {
        UnitHours x = Sentences.day(TWO);
        x.run(0, 2);
        due("cost", x.best(-1), 38);
        x.layBest();
        due("cost", x.best(-1), 38);
        x.run(1, 0);
        due("hour 0", x.best(0), 3);
        due("the plan stays", x.unit(1, 6), 0);
    }

    /** What was foretold before must not be told again of a day that is another. */
    private static void p20_behindEachActItIsAnother() {
        UnitHours x = Sentences.day("v0;h4;p4,8,1,9,1,1;");
        due("at first", x.best(-1), 13);
        x.image(0);
        x.demand(0, 5);
        due("demand", x.best(-1), 14);
        x.price(0, 2);
        due("price", x.best(-1), 19);
        x.become(0, 2);
        due("kind", x.best(-1), 14);
        x.reserve(4);
        due("reserve", x.best(-1), NONE);
        x.undo();
        due("undone", x.best(-1), 14);
        x.undo();
        due("undone", x.best(-1), 19);
        x.layBest();
        due("laid", x.best(-1), 19);
        x.restore(0);
        due("restored", x.best(-1), 13);
        Check.feedText(x, "v0;h4;w4,8,3,9,1,1;");
        x.day();
        due("another day", x.best(-1), 12);
        x.day();
        due("a day with a fault", x.best(-1), 12);
    }

    private static void p20_behindOtherForetellings() {
        UnitHours x = Sentences.day(TWO);
        due("at first", x.best(-1), 38);
        x.more(0);
        x.wanted();
        x.who(0, 0, 38);
        x.who(2, 0, 38);
        x.who(3, 0, 38);
        x.drawn(8, 1, 0);
        x.gap(3);
        due("cost", x.best(-1), 38);
        due("hour 0", x.best(0), 3);
        due("hour 1", x.best(1), 3);
    }

    // ---- 21 alone

    private static void p21_itemsFromIOn() {
        UnitHours x = Sentences.priced("v0;h0;h0;r0,10,1,0,1,1;", 2, 3, 4, 5, 6);
        for (int i = 0; i <= 3; i++) {
            due("from " + i, x.alone(0, 0, i, -2), -10 * (2 * i + 3));
        }
        due("beyond the end", x.alone(0, 0, 4, -2), PLACE);
        due("at the end", x.alone(0, 0, 5, -2), PLACE);
        due("below", x.alone(0, 0, -1, -2), PLACE);
        for (int w : Sentences.wild()) {
            due("i " + w, x.alone(0, 0, w, -2), PLACE);
        }
    }

    private static void p21_asManyItemsAsHours() {
        for (int n = 1; n <= 6; n++) {
            UnitHours x = Sentences.day("v0;" + "h0;".repeat(n) + "r0,10,1,0,1,1;");
            x.row(0, 0, n - 1);
            due("one less than " + n, x.alone(0, 0, 0, -2), PLACE);
            x.row(0, 0, n);
            due("just " + n, x.alone(0, 0, 0, -2), 0);
            due("from 1 on", x.alone(0, 0, 1, -2), PLACE);
        }
    }

    private static void p21_what() {
        UnitHours x = Sentences.priced("v0;h0;h0;w0,10,1,0,1,1;", 1, 3);
        due("loss", x.alone(0, 0, 0, -2), -20);
        due("hours", x.alone(0, 0, 0, -1), 2);
        due("off: 0", x.alone(0, 0, 0, 0), 0);
        due("on", x.alone(0, 0, 0, 1), 10);
        due("hour 2", x.alone(0, 0, 0, 2), BAD);
        due("-3", x.alone(0, 0, 0, -3), BAD);
        for (int w : Sentences.wild()) {
            due("what " + w, x.alone(0, 0, 0, w), BAD);
        }
    }

    private static void p21_unitsAndRows() {
        UnitHours x = Sentences.priced(FOUR, 1, 2, 3, 4, 5, 6);
        for (int u = 0; u < 4; u++) {
            Sentences.holds("unit " + u, x.alone(u, 0, 0, -1) >= 0);
        }
        due("unit 4", x.alone(4, 0, 0, -1), BAD);
        due("unit -1", x.alone(-1, 0, 0, -1), BAD);
        due("row 8", x.alone(0, 8, 0, -1), BAD);
        due("row -1", x.alone(0, -1, 0, -1), BAD);
        due("row 7 is missing", x.alone(0, 7, 0, -1), NULL);
        for (int w : Sentences.wild()) {
            due("unit " + w, x.alone(w, 0, 0, -1), BAD);
            due("row " + w, x.alone(0, w, 0, -1), BAD);
        }
    }

    private static void p21_badAheadOfNullAheadOfPlace() {
        UnitHours x = Sentences.priced(TWO, 1, 2, 3);
        due("what, missing", x.alone(0, 5, 0, 2), BAD);
        due("unit, missing", x.alone(2, 5, 0, 0), BAD);
        due("what, place", x.alone(0, 0, 9, -3), BAD);
        due("missing, place", x.alone(0, 5, -1, 0), NULL);
        due("missing, place", x.alone(0, 5, MOST, -2), NULL);
        UnitHours y = Sentences.none();
        due("no day", y.alone(0, 0, 0, -2), BAD);
        due("no day, missing", y.alone(0, 5, 0, 0), BAD);
        due("no finding", y.status(), 0);
    }

    private static void p21_whateverThePlanIs() {
        UnitHours x = Sentences.priced("v0;h9;h9;w0,10,1,0,1,1;", 1, 3);
        x.run(0, 1);
        due("hours", x.alone(0, 0, 0, -1), 2);
        x.demand(0, 60);
        x.reserve(20);
        due("loss", x.alone(0, 0, 0, -2), -20);
        x.price(0, 3);
        due("its price is another", x.alone(0, 0, 0, -2), 0);
        x.become(0, 5);
        due("its kind is another", x.alone(0, 0, 0, -1), 3);
    }

    // ---- 22 bound

    private static void p22_itemsFromIOn() {
        UnitHours x = Sentences.priced("v0;h1;h10;p0,0,1,0,1,1;", 2, 3, 4, 5, 6);
        for (int i = 0; i <= 3; i++) {
            due("from " + i, x.bound(0, i), 2 + i + 10 * (3 + i));
        }
        due("beyond the end", x.bound(0, 4), PLACE);
        due("at the end", x.bound(0, 5), PLACE);
        due("below", x.bound(0, -1), PLACE);
        for (int w : Sentences.wild()) {
            due("i " + w, x.bound(0, w), PLACE);
        }
    }

    private static void p22_asManyItemsAsHours() {
        for (int n = 1; n <= 6; n++) {
            UnitHours x = Sentences.day("v0;" + "h0;".repeat(n) + "r0,10,1,0,1,1;");
            x.row(0, 0, n - 1);
            due("one less than " + n, x.bound(0, 0), PLACE);
            x.row(0, 0, n);
            due("just " + n, x.bound(0, 0), 0);
            due("from 1 on", x.bound(0, 1), PLACE);
        }
    }

    private static void p22_refused() {
        UnitHours x = Sentences.priced(TWO, 1, 2);
        due("row 8", x.bound(8, 0), BAD);
        due("row -1", x.bound(-1, 0), BAD);
        due("row 7", x.bound(7, 0), NULL);
        due("missing, place", x.bound(7, -1), NULL);
        for (int w : Sentences.wild()) {
            due("row " + w, x.bound(w, 0), BAD);
            due("no day: row " + w, Sentences.none().bound(w, 0), STATE);
        }
        due("no day", Sentences.none().bound(0, 0), STATE);
        due("no day", Sentences.none().bound(8, -1), STATE);
    }

    private static void p22_theMostAndTheLeast() {
        int[] most = {MOST, MOST, MOST, MOST, MOST, MOST};
        int[] least = {LEAST, LEAST, LEAST, LEAST, LEAST, LEAST};
        String text = "v0;h60;h60;h60;h60;h60;h60;";
        due("the most", Sentences.priced(text + "p0,0,1,0,1,1;", most).bound(0, 0), 360L * MOST);
        due("the least", Sentences.priced(text + "p0,0,1,0,1,1;", least).bound(0, 0), 360L * LEAST);
        due("four that give", Sentences.priced("v0;" + "h0;".repeat(6) + "w0,30,9,0,1,1;".repeat(4), most).bound(0, 0),
                720 * (9L - MOST));
    }

    private static void p22_whereThereIsNoBest() {
        UnitHours x = Sentences.priced(HARD, 1, 1);
        due("bound", x.bound(0, 0), 61);
    }

    // ---- 23 moved

    private static void p23_edges() {
        UnitHours x = Sentences.day(TWO);
        due("n 0", x.moved(0, -1), 0);
        due("n 0", x.moved(0, 1), 0);
        Sentences.holds("n 12", x.moved(12, 1) >= 0);
        due("n 13", x.moved(13, -1), BAD);
        due("n -1", x.moved(-1, -1), BAD);
        due("what 2", x.moved(0, 2), BAD);
        due("what -2", x.moved(0, -2), BAD);
        for (int w : Sentences.wild()) {
            due("n " + w, x.moved(w, 0), BAD);
            due("what " + w, x.moved(0, w), BAD);
            due("no day: n " + w, Sentences.none().moved(w, 0), STATE);
            due("no day: what " + w, Sentences.none().moved(0, w), STATE);
        }
        due("no day", Sentences.none().moved(0, -1), STATE);
        UnitHours y = Sentences.day(FOUR);
        Sentences.holds("the last hour", y.moved(1, 5) == 9);
        due("one more", y.moved(1, 6), BAD);
    }

    private static void p23_whereThereIsNoBest() {
        UnitHours x = Sentences.day(HARD);
        due("price", x.moved(1, 0), 60);
        due("bound", x.moved(1, -1), 3600 + 4 * (3 - 60) + 4 * (1 - 60) + 1);
    }

    private static void p23_eachCallFromTheFirstPricesOn() {
        UnitHours x = Sentences.priced("v0;h5;p0,9,3,2,1,1;", 8);
        due("price", x.moved(1, 0), 5);
        due("price again", x.moved(1, 0), 5);
        x.alone(0, 0, 0, -2);
        due("behind other prices", x.moved(1, 0), 5);
        due("behind other prices", x.moved(0, 0), 0);
        due("bound", x.moved(1, -1), 9);
    }

    // ---- 24 gap

    private static void p24_edges() {
        UnitHours x = Sentences.day("v0;h5;p0,9,3,2,1,1;");
        due("n 0", x.gap(0), 17);
        due("n 12", x.gap(12), 2);
        due("n 13", x.gap(13), BAD);
        due("n -1", x.gap(-1), BAD);
        for (int w : Sentences.wild()) {
            due("n " + w, x.gap(w), BAD);
            due("no day: n " + w, Sentences.none().gap(w), STATE);
        }
        due("no day", Sentences.none().gap(0), STATE);
        due("no day", Sentences.none().gap(13), STATE);
    }

    private static void p24_none() {
        UnitHours x = Sentences.day(HARD);
        due("n 0", x.gap(0), NONE);
        due("n 12", x.gap(12), NONE);
        due("BAD ahead of NONE", x.gap(13), BAD);
        due("BAD ahead of NONE", x.gap(-1), BAD);
    }

    private static void p24_noGap() {
        due("nothing costs", Sentences.day("v0;h0;p1,1,1,1,1,1;").gap(0), 0);
        due("the price is just found", Sentences.day("v0;h3;w0,9,3,0,1,1;").gap(1), 0);
        for (int n = 0; n <= 12; n++) {
            Sentences.holds("never below 0", Sentences.day(FOUR).gap(n) >= 0);
        }
    }

    // ---- 25 more

    private static void p25_edges() {
        UnitHours x = Sentences.day(TWO);
        due("hour 0", x.more(0), 2);
        due("hour 1", x.more(1), 3);
        due("hour 2", x.more(2), BAD);
        due("hour -1", x.more(-1), BAD);
        for (int w : Sentences.wild()) {
            due("hour " + w, x.more(w), BAD);
            due("no day: hour " + w, Sentences.none().more(w), BAD);
        }
        due("no day", Sentences.none().more(0), BAD);
    }

    private static void p25_none() {
        UnitHours x = Sentences.day(HARD);
        due("hour 0", x.more(0), NONE);
        due("hour 1", x.more(1), NONE);
        due("BAD ahead of NONE", x.more(2), BAD);
    }

    // ---- 26 wanted

    private static void p26_each() {
        due("both", Sentences.day(TWO).wanted(), 3);
        due("none", Sentences.day(HARD).wanted(), NONE);
        due("no day", Sentences.none().wanted(), STATE);
        due("of one unit", Sentences.day("v0;h1;p1,1,1,1,1,1;").wanted(), 1);
        due("of one unit", Sentences.day("v0;h0;p1,1,1,1,1,1;").wanted(), 0);
    }

    private static void p26_whateverThePlanIs() {
        UnitHours x = Sentences.day("v0;h3;p0,5,1,0,1,1;p0,2,1,0,1,1;");
        due("wanted", x.wanted(), 1);
        x.run(1, 1);
        due("wanted", x.wanted(), 1);
        due("the plan stays", x.unit(1, 6), 1);
        x.layBest();
        due("wanted", x.wanted(), 1);
    }

    // ---- 27 who

    private static void p27_which() {
        UnitHours x = Sentences.day("v0;h1;w0,1,4,0,1,1;");
        due("0", x.who(0, 0, 4), 1);
        due("1", x.who(1, 0, 4), 1);
        due("2, a slow one has no best", x.who(2, 0, 4), 0b110110);
        due("3", x.who(3, 0, 4), 0b10000);
        due("4", x.who(4, 0, 4), BAD);
        due("-1", x.who(-1, 0, 4), BAD);
        for (int w : Sentences.wild()) {
            due("which " + w, x.who(w, 0, 4), BAD);
        }
    }

    private static void p27_anHourOrAUnit() {
        UnitHours x = Sentences.day("v0;h1;h1;h1;w0,1,4,0,1,1;w0,1,4,0,1,1;");
        UnitHours y = Sentences.day("v0;h1;h1;w0,1,4,0,1,1;w0,1,4,0,1,1;w0,1,4,0,1,1;");
        for (int which = 0; which < 4; which++) {
            Sentences.holds("x 1", x.who(which, 1, 4) != BAD && y.who(which, 1, 4) != BAD);
            due("x 2 of three hours", x.who(which, 2, 4) == BAD ? 1 : 0, which < 2 ? 0 : 1);
            due("x 2 of three units", y.who(which, 2, 4) == BAD ? 1 : 0, which < 2 ? 1 : 0);
            due("x 3", x.who(which, 3, 4), BAD);
            due("x 3", y.who(which, 3, 4), BAD);
            due("x -1", x.who(which, -1, 4), BAD);
            for (int w : Sentences.wild()) {
                due("x " + w, x.who(which, w, 4), BAD);
            }
        }
    }

    private static void p27_v0To99999() {
        UnitHours x = Sentences.day("v0;h1;w0,1,4,0,1,1;");
        int[] none = {0, NONE, 0, 0};
        for (int which = 0; which < 4; which++) {
            due("99999", x.who(which, 0, 99999), none[which]);
            due("100000", x.who(which, 0, 100000), BAD);
            due("-1", x.who(which, 0, -1), BAD);
            for (int w : Sentences.wild()) {
                due("v " + w, x.who(which, 0, w), BAD);
            }
        }
        due("v 0", x.who(0, 0, 0), 1);
        due("v 0", x.who(1, 0, 0), 0);
        due("v 0", x.who(2, 0, 0), 0);
        due("v 0", x.who(3, 0, 0), 0);
    }

    private static void p27_stateAheadOfBad() {
        for (int bad : new int[] {LEAST, -1, 0, 4, MOST}) {
            due("which " + bad, Sentences.none().who(bad, 0, 0), STATE);
            due("x " + bad, Sentences.none().who(0, bad, 0), STATE);
            due("v " + bad, Sentences.none().who(0, 0, bad), STATE);
        }
    }

    private static void p27_whereThereIsNoBest() {
        UnitHours x = Sentences.day(HARD);
        due("by another demand", x.who(1, 0, 1), 0);
        due("by another demand", x.who(0, 0, 1), 1);
        due("of the other hour", x.who(0, 1, 1), 0);
        due("of the other hour", x.who(1, 1, 1), NONE);
        due("kinds", x.who(2, 0, 1), 0);
        due("prices", x.who(3, 0, 1), 0);
    }

    // ---- 28 fits

    private static void p28_n() {
        UnitHours x = Sentences.priced("v0;h1;h1;w0,1,4,0,1,1;", 1, 1, 1);
        due("n 1, a slow one has no best", x.fits(0, 0, 1), 0b110110);
        due("n 2, a slow one has no best", x.fits(0, 0, 2), 0b110110);
        due("n 3", x.fits(0, 0, 3), BAD);
        due("n 0", x.fits(0, 0, 0), BAD);
        due("n -1", x.fits(0, 0, -1), BAD);
        for (int w : Sentences.wild()) {
            due("n " + w, x.fits(0, 0, w), BAD);
        }
    }

    private static void p28_unitsAndRows() {
        UnitHours x = Sentences.priced(FOUR, 0, 0, 0, 0, 0, 0);
        Sentences.holds("unit 3", x.fits(3, 0, 6) >= 0);
        due("unit 4", x.fits(4, 0, 6), BAD);
        due("unit -1", x.fits(-1, 0, 6), BAD);
        due("row 7", x.fits(0, 7, 6), NULL);
        due("row 8", x.fits(0, 8, 6), BAD);
        due("row -1", x.fits(0, -1, 6), BAD);
        for (int w : Sentences.wild()) {
            due("unit " + w, x.fits(w, 0, 6), BAD);
            due("row " + w, x.fits(0, w, 6), BAD);
        }
    }

    private static void p28_place() {
        UnitHours x = Sentences.day(FOUR);
        for (int n = 0; n <= 6; n++) {
            x.row(0, 0, n);
            if (n > 0) {
                Sentences.holds("just " + n, x.fits(0, 0, n) >= 0);
            }
            due("one more than " + n, x.fits(0, 0, n + 1), n == 6 ? BAD : PLACE);
        }
        due("missing ahead of place", x.fits(0, 1, 6), NULL);
        due("n ahead of missing", x.fits(0, 1, 7), BAD);
        due("no day", Sentences.none().fits(0, 0, 1), BAD);
    }

    private static void p28_asBestIs() {
        UnitHours x = Sentences.day(FOUR);
        x.row(0, 1, 6);
        for (int h = 0; h < 6; h++) {
            x.set(0, h, x.best(h));
        }
        for (int u = 0; u < 4; u++) {
            due("its own kind " + u, x.fits(u, 0, 6) >> x.kind(u) & 1, 1);
            due("the kind stays", x.kind(u), u + 1);
        }
    }

    // ---- 29 drawn

    private static void p29_edges() {
        UnitHours x = Sentences.day("v0;h0;w0,30,1,0,1,1;w0,30,1,0,1,1;");
        due("n 0", x.drawn(0, 1, 0), 0);
        due("n 8", x.drawn(8, 1, 0), 8);
        due("n 9", x.drawn(9, 1, 0), BAD);
        due("n -1", x.drawn(-1, 1, 0), BAD);
        due("seed 1", x.drawn(1, 1, 1), 10);
        due("seed 999999", x.drawn(1, 999999, 1), 34);
        due("seed 0", x.drawn(1, 0, 1), BAD);
        due("seed 1000000", x.drawn(1, 1000000, 1), BAD);
        due("seed -1", x.drawn(1, -1, 1), BAD);
        due("what 2", x.drawn(1, 1, 2), BAD);
        due("what -1", x.drawn(1, 1, -1), BAD);
        for (int w : Sentences.wild()) {
            due("n " + w, x.drawn(w, 1, 0), BAD);
            due("what " + w, x.drawn(1, 1, w), BAD);
            due("seed " + w, x.drawn(1, w, 0), BAD);
        }
        due("n 0, seed 0", x.drawn(0, 0, 0), BAD);
    }

    private static void p29_stateAheadOfBad() {
        for (int bad : new int[] {LEAST, -1, 0, 1, 9, 1000000, MOST}) {
            due("n " + bad, Sentences.none().drawn(bad, 1, 0), STATE);
            due("seed " + bad, Sentences.none().drawn(1, bad, 0), STATE);
            due("what " + bad, Sentences.none().drawn(1, 1, bad), STATE);
        }
    }

    private static void p29_eachCallFromTheSeedOn() {
        UnitHours x = Sentences.day("v0;h0;h5;w0,30,1,0,1,1;w0,30,1,0,1,1;");
        long once = x.drawn(8, 77, 1);
        due("once more", x.drawn(8, 77, 1), once);
        x.drawn(3, 4, 0);
        due("once more", x.drawn(8, 77, 1), once);
        due("demands stay", x.hour(0, 0), 0);
        due("demands stay", x.hour(1, 0), 5);
    }

    // ---- 30 image, 31 restore

    private static void p30_edges() {
        UnitHours x = Sentences.day(TWO);
        due("0", x.image(0), 1);
        due("1", x.image(1), 1);
        due("0 again", x.image(0), 1);
        due("2", x.image(2), BAD);
        due("-1", x.image(-1), BAD);
        for (int w : Sentences.wild()) {
            due("k " + w, x.image(w), BAD);
            due("no day: k " + w, Sentences.none().image(w), BAD);
        }
        due("no day", Sentences.none().image(0), STATE);
        due("no day", Sentences.none().image(1), STATE);
        due("no day", Sentences.none().image(2), BAD);
    }

    private static void p30_nothingChanges() {
        UnitHours x = Sentences.day(TWO);
        x.run(0, 1);
        x.image(0);
        due("acts", x.count(4), 1);
        due("on", x.unit(0, 6), 1);
        due("undo", x.undo(), 0);
    }

    private static void p30_anImageInPlaceOfTheOneBefore() {
        UnitHours x = Sentences.day(TWO);
        x.image(0);
        x.run(0, 1);
        x.image(0);
        x.run(0, 2);
        x.restore(0);
        due("on", x.unit(0, 6), 1);
    }

    private static void p31_edges() {
        UnitHours x = Sentences.day(TWO);
        due("none was kept", x.restore(0), STATE);
        due("none was kept", x.restore(1), STATE);
        due("2", x.restore(2), BAD);
        due("-1", x.restore(-1), BAD);
        for (int w : Sentences.wild()) {
            due("k " + w, x.restore(w), BAD);
            due("no day: k " + w, Sentences.none().restore(w), BAD);
        }
        x.image(1);
        due("the other was not kept", x.restore(0), STATE);
        due("it was", x.restore(1), 1);
        due("and is still", x.restore(1), 1);
        due("no day", Sentences.none().restore(0), STATE);
    }

    private static void p31_allIsAsItWas() {
        UnitHours x = Sentences.day(FOUR);
        x.layBest();
        x.demand(5, 8);
        x.image(0);
        Check.feedText(x, TWO);
        x.day();
        x.image(1);
        due("restore", x.restore(0), 1);
        due("units", x.count(1), 4);
        due("hours", x.count(2), 6);
        due("demands", x.count(3), 93);
        due("reserve", x.plan(4), 2);
        due("kind", x.kind(3), 4);
        due("high", x.unit(0, 1), 14);
        Sentences.holds("on", x.unit(0, 6) > 0);
        due("restore", x.restore(1), 1);
        due("units", x.count(1), 2);
        due("hours", x.count(2), 2);
        due("no third unit", x.unit(2, 0), BAD);
        due("off", x.unit(0, 6), 0);
        due("best", x.best(-1), 38);
    }

    private static void p31_noCallSeesWhatWasAheadOfIt() {
        List<Long> want = Twins.answers(Sentences.day(TWO));
        for (String text : new String[] {"v0;h1;r0,9,1,0,3,3;", FOUR}) {
            UnitHours x = Sentences.day(TWO);
            x.image(1);
            Check.feedText(x, text);
            x.day();
            x.layBest();
            x.more(0);
            due("restore", x.restore(1), 1);
            Sentences.holds("answers behind " + text, Twins.answers(x).equals(want));
        }
    }

    private static void p31_noActCanBeUndoneThen() {
        UnitHours x = Sentences.day(TWO);
        x.image(0);
        x.run(0, 1);
        x.run(1, 1);
        due("acts", x.count(4), 2);
        x.restore(0);
        due("acts", x.count(4), 0);
        due("undo", x.undo(), STATE);
        x.run(0, 2);
        due("acts", x.count(4), 1);
        due("undo", x.undo(), 0);
        due("on", x.unit(0, 6), 0);
    }

    private static void p31_theImageStaysAsItIs() {
        UnitHours x = Sentences.day(TWO);
        x.image(0);
        x.restore(0);
        x.run(0, 1);
        x.demand(0, 60);
        x.price(0, 9);
        x.become(0, 3);
        x.reserve(9);
        x.restore(0);
        Sentences.dueAll("as it was", new long[] {x.unit(0, 6), x.hour(0, 0), x.unit(0, 2), x.kind(0), x.plan(4)},
                0, 5, 3, 1, 1);
    }

    private static void p31_rowsTapeTraceStay() {
        UnitHours x = Sentences.day(TWO);
        x.image(0);
        x.row(3, 0, 2);
        x.feed('v');
        x.ask(0, 1);
        x.as(0, 5);
        x.restore(0);
        due("rows", x.count(0), 1);
        due("tape", x.count(5), 1);
        due("trace", x.trace(0), 21);
        due("status", x.status(), 3);
    }
}
