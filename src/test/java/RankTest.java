/** The sentences of "Terms" on ranks, the best play and steps by rank that name a boundary case, a test for each one. */
public final class RankTest extends Scenes {
    private static final Checks checks = new Checks("RankTest");
    /** The greatest and the least result of an operation. */
    private static final int LIMIT = 1000000;
    private static final String MOST = "(9999*9999)";
    private static final String LEAST = "(0-9999*9999)";

    public static void main(String[] args) {
        pipsFrom0To18();
        doubleIs1Or0();
        ownAndPublicAre1Or0();
        leftFrom0To11();
        numbersFrom0To9999();
        divisionTruncatesTowardZero();
        divisionByZeroGivesZero();
        operationsAreMadeFromTheLeft();
        onlyTheExpressionOfTheLatestSetup();
        productsBeforeSums();
        sumsAreLimited();
        differencesAreLimited();
        productsAreLimited();
        quotientsAreOfLimitedNumbers();
        eachResultIsLimited();
        withoutAStatementTheRankIsThePips();
        theGreatestRankIsTheBest();
        alsoAmongNegativeRanks();
        ofEqualRanksTheSmallestTile();
        ofTheseTheSmallestTrain();
        limitedRanksAreEqual();
        thePlayOf00OnTrain0();
        aStepIsTheBestPlay();
        otherwiseADraw();
        otherwiseAPass();
        checks.end();
    }

    /** The rank of 03 on the own train, with 3 tiles behind it. */
    private static void rank(String expression, int due) {
        checks.answers("rank " + expression, due, () -> Checks.loaded(ROWS + "rank " + expression + ";").rank(3, 0));
    }

    private static void pipsFrom0To18() {
        HubTrains t = played("trains 9 2 3; hub 0; give 0 0-9 9-9 1-2; give 1 0-1 0-2 0-3; rank pips;", 9, 0, 1, 1);
        checks.same("99 on 9", t.rank(99, 0), 18);
        HubTrains zero = played("trains 3 2 9; rank pips;", 3, 0);
        zero.pass();
        checks.same("00 on 0", zero.rank(0, 0), 0);
    }

    private static void doubleIs1Or0() {
        HubTrains t = played("trains 3 2 9; rank double;", 3, 0);
        t.pass();
        checks.same("00", t.rank(0, 0), 1);
        checks.same("01", t.rank(1, 0), 0);
    }

    private static void ownAndPublicAre1Or0() {
        HubTrains t = Checks.loaded(THREE + "rank own*10+public;");
        t.pass();
        checks.same("the own train", t.rank(1, 1), 10);
        checks.same("the public train", t.rank(1, 3), 1);
        checks.same("an open train of another", t.rank(1, 0), 0);
    }

    private static void leftFrom0To11() {
        checks.answers("the last tile", 0,
                () -> Checks.loaded("trains 3 2 1; give 0 0-3; rank left;").rank(3, 0));
        checks.answers("the first of 12", 11, () -> Checks.loaded(TWELVE + "2-4; rank left;").rank(4, 0));
        HubTrains large = Checks.loaded("trains 9 2 12; hub 0; give 0 1-1 2-2 3-3 4-4 5-5 6-6 7-7 8-8 9-9 8-9 7-9 6-9;"
                + "give 1 1-2 1-3 1-4 1-5 1-6 1-7 1-8 1-9 2-3 2-4 2-5 2-6; rank left;");
        while (large.best() < 0) {
            large.auto(1);
        }
        int tiles = large.player(large.state(4), 0);
        checks.same("above 12 tiles", large.rank(large.best() / 10, large.best() % 10), tiles - 1);
    }

    private static void numbersFrom0To9999() {
        rank("0", 0);
        rank("1", 1);
        rank("9999", 9999);
        rank("00009999", 9999);
    }

    private static void divisionTruncatesTowardZero() {
        rank("7/2", 3);
        rank("(0-7)/2", -3);
        rank("7/(0-2)", -3);
        rank("(0-7)/(0-2)", 3);
        rank("1/2", 0);
        rank("(0-1)/2", 0);
        rank("9998/9999", 0);
        rank("9999/9999", 1);
    }

    private static void divisionByZeroGivesZero() {
        rank("7/0", 0);
        rank("(0-7)/0", 0);
        rank("0/0", 0);
        rank("9/0+1", 1);
        rank("9/0*5", 0);
        rank("9/double", 0);
        rank("9/public", 0);
        rank("9/(pips-3)", 0);
    }

    private static void operationsAreMadeFromTheLeft() {
        rank("10-3-2", 5);
        rank("10-3+2", 9);
        rank("100/7/2", 7);
        rank("7/2*2", 6);
        rank("7*2/4", 3);
    }

    private static void onlyTheExpressionOfTheLatestSetup() {
        HubTrains t = Checks.loaded(ROWS + "rank 1+2*(3+4);");
        checks.same("a long one", t.rank(3, 0), 15);
        Checks.load(t, ROWS + "rank 7;");
        checks.same("a shorter one behind it", t.rank(3, 0), 7);
        Checks.load(t, ROWS + "rank 1+2+3+4+5x");
        checks.same("one with an error behind it", t.rank(3, 0), 7);
        Checks.load(t, ROWS + "rank 8-2;");
        checks.same("one behind an error", t.rank(3, 0), 6);
        t.undo();
        checks.same("the one before", t.rank(3, 0), 7);
    }

    private static void productsBeforeSums() {
        rank("1+2*3", 7);
        rank("9-8/4", 7);
        rank("(1+2)*3", 9);
        rank("2*(1+2)*(3-1)", 12);
    }

    private static void sumsAreLimited() {
        rank("9999*100+99", LIMIT - 1);
        rank("9999*100+100", LIMIT);
        rank("9999*100+101", LIMIT);
        rank(MOST + "+1", LIMIT);
        rank(MOST + "+" + MOST, LIMIT);
        rank(LEAST + "+" + LEAST, -LIMIT);
        rank(MOST + "+" + LEAST, 0);
    }

    private static void differencesAreLimited() {
        rank("0-9999*100-99", -LIMIT + 1);
        rank("0-9999*100-100", -LIMIT);
        rank("0-9999*100-101", -LIMIT);
        rank(LEAST + "-1", -LIMIT);
        rank(LEAST + "-" + MOST, -LIMIT);
        rank(MOST + "-" + LEAST, LIMIT);
        rank(MOST + "-" + MOST, 0);
    }

    private static void productsAreLimited() {
        rank("1001*999", LIMIT - 1);
        rank("1000*1000", LIMIT);
        rank("101*9901", LIMIT);
        rank("(0-1001)*999", -LIMIT + 1);
        rank("(0-1000)*1000", -LIMIT);
        rank("(0-101)*9901", -LIMIT);
        rank("9999*9999", LIMIT);
        rank(MOST + "*" + MOST, LIMIT);
        rank(MOST + "*" + LEAST, -LIMIT);
        rank(LEAST + "*" + LEAST, LIMIT);
    }

    private static void quotientsAreOfLimitedNumbers() {
        rank("9999*9999/9999", 100);
        rank(MOST + "/1", LIMIT);
        rank(LEAST + "/1", -LIMIT);
        rank(MOST + "/" + LEAST, -1);
        rank(LEAST + "/" + LEAST, 1);
    }

    /** Each one would be another number if only the last result was limited. */
    private static void eachResultIsLimited() {
        rank("9999*100+101-1", LIMIT - 1);
        rank("0-9999*100-101+1", -LIMIT + 1);
        rank("9999*9999*0+5", 5);
        rank("9999*9999-9999", LIMIT - 9999);
        rank("(9999*100+200)-(9999*100+150)", 0);
        rank("101*9901/10", LIMIT / 10);
    }

    private static void withoutAStatementTheRankIsThePips() {
        checks.same("03", Checks.loaded(ROWS).rank(3, 0), 3);
        checks.same("00", alone(3).rank(0, 0), 0);
        HubTrains t = Checks.loaded(ROWS + "rank 5;");
        Checks.load(t, ROWS);
        checks.same("behind a setup with one", t.rank(3, 0), 3);
        Checks.load(t, ROWS + "rank 0;");
        checks.same("a rank of 0 is no missing one", t.rank(3, 0), 0);
    }

    private static void theGreatestRankIsTheBest() {
        checks.same("23 of 12 13 23 on 3", played(ROWS, 3, 0).best(), 231);
        checks.same("the public train", Checks.loaded(ROWS + "rank public;").best(), 32);
        checks.same("a rank greater by one", played(ROWS + "rank left*0+pips/5;", 3, 0).best(), 231);
    }

    private static void alsoAmongNegativeRanks() {
        checks.same("the least loss", played(ROWS + "rank 0-pips;", 3, 0).best(), 131);
        checks.same("all at the least bound", Checks.loaded(ROWS + "rank " + LEAST + ";").best(), 30);
        checks.same("no play", Checks.loaded(THREE + "rank " + LEAST + ";").best(), -1);
    }

    private static void ofEqualRanksTheSmallestTile() {
        checks.same("13 of 13 23", played(ROWS + "rank 1;", 3, 0).best(), 131);
        checks.same("of its plays on another train", played(ROWS + "rank public;", 3, 0).best(), 132);
    }

    private static void ofTheseTheSmallestTrain() {
        HubTrains t = Checks.loaded(THREE + "rank 1;");
        t.pass();
        checks.same("01 on 0 1 3", t.best(), 10);
        HubTrains own = Checks.loaded(THREE + "rank own+public;");
        own.pass();
        checks.same("01 on 1 3", own.best(), 11);
    }

    private static void limitedRanksAreEqual() {
        checks.same("at the greatest bound", played(ROWS + "rank pips*9999*9999;", 3, 0).best(), 131);
        checks.same("at the least bound", played(ROWS + "rank 0-pips*9999*9999;", 3, 0).best(), 131);
    }

    private static void thePlayOf00OnTrain0() {
        HubTrains t = played("trains 3 2 9; rank double;", 3, 0);
        t.pass();
        checks.same("is told as 0", t.best(), 0);
        checks.same("and made", t.auto(1) + " " + t.laid(0, 1) + " " + t.state(6), "1 0 0");
    }

    private static void aStepIsTheBestPlay() {
        HubTrains t = Checks.loaded(ROWS + "rank public;");
        t.auto(1);
        checks.same("the best play, although there is a stock",
                t.laid(2, 0) + " " + t.state(7) + " " + t.state(4), "3 1 1");
    }

    private static void otherwiseADraw() {
        HubTrains t = stuck();
        t.auto(1);
        checks.same("a draw", t.state(4) + " " + t.state(5) + " " + t.state(7) + " " + t.tile(2, 1), "2 1 1 44");
    }

    private static void otherwiseAPass() {
        HubTrains t = stuck();
        t.auto(2);
        checks.same("a pass behind a draw", t.state(4) + " " + t.state(11) + " " + t.state(7), "0 1 1");
        t.auto(3);
        checks.same("a pass without a stock", t.state(4) + " " + t.state(11) + " " + t.state(7), "2 2 0");
        HubTrains drew = played(TWO_DRAWS, 1, 3, 2, 1, 3, 2);
        drew.auto(2);
        checks.same("a play of the tile that was drawn", drew.laid(3, 1) + " " + drew.state(5), "11 0");
    }
}
