/** The sentences of "Terms" on turns and the end of a round that name a boundary case, with a test for each one. */
public final class TurnsTest extends Scenes {
    private static final Checks checks = new Checks("TurnsTest");
    /** Hub 0; player 0 can lay 11 on 01 and then has nothing to cover it; player 1 has 12, which can. */
    private static final String COVER =
            "trains 3 3 3; hub 0; give 0 0-1 1-1 3-3; give 1 1-2 2-2 0-3; give 2 0-2 1-3 2-3;";

    public static void main(String[] args) {
        aTileFitsByEachOfItsNumbers();
        theEndBecomesTheOtherNumber();
        ownPublicOrOpenTrains();
        onlyTheTrainOfTheDouble();
        alsoTheTrainOfAnotherWithTheDouble();
        theOwnTrainIsClosedByAPlayOnIt();
        otherPlaysCloseNoTrain();
        aDoubleStaysOnTurn();
        behindADoubleThePlayerDidNotDraw();
        aCoverLeavesNothingUncovered();
        behindTheLastPlayerComesPlayerZero();
        theNextPlayerDidNotDraw();
        drawOnlyWithoutAPlay();
        drawOnlyOnce();
        drawOnlyFromAStock();
        passOnlyWithoutAPlay();
        passOnlyBehindADrawOrWithoutAStock();
        aPassOpensTheOwnTrain();
        anUncoveredDoubleStaysSo();
        theLastTileEndsTheRound();
        aDoubleAsTheLastTileEndsTheRound();
        aLastTileOnEachKindOfTrainEndsTheRound();
        aHandThatIsEmptyWithoutAPlayEndsNothing();
        passesOfAllEndTheRound();
        passesOfAllButOneEndNothing();
        aPlayBetweenPassesCountsThemAnew();
        aDrawBetweenPassesCountsThemAnew();
        pipsAreAddedToTheTotals();
        nothingGoesOnWhenTheRoundIsOver();
        theRoundThatIsOver();
        checks.end();
    }

    private static void aTileFitsByEachOfItsNumbers() {
        HubTrains t = Checks.loaded(THREE);
        t.pass();
        checks.same("by its lower number", t.why(1, 1), 0);
        checks.same("by none", t.why(11, 1) + " " + t.why(13, 1), "5 5");
        checks.same("by its higher number", Checks.loaded(ROWS).why(3, 0), 0);
        checks.same("not by its pips", Checks.loaded("trains 3 2 2; give 0 1-2 0-1;").why(12, 0), 5);
        checks.same("a double", alone(3).why(0, 0) + " " + alone(3).why(22, 0), "0 5");
    }

    private static void theEndBecomesTheOtherNumber() {
        checks.same("00 at 0", alone(3).play(0, 0), 0);
        checks.same("01 at 0", alone(3).play(1, 0), 1);
        checks.same("13 at 1", alone(3, 1).play(13, 0), 3);
        checks.same("03 at 3", alone().play(3, 0), 0);
        checks.same("23 at 3", alone(3, 1, 13).play(23, 0), 2);
        HubTrains t = alone(3, 1, 13, 23);
        checks.same("22 at 2", t.play(22, 0) + " " + t.train(0, 1), "2 2");
    }

    private static void ownPublicOrOpenTrains() {
        HubTrains t = Checks.loaded(THREE);
        checks.same("no play", t.state(10), 0);
        t.pass();
        checks.same("01 on the own train, which is closed", t.why(1, 1) + " " + t.train(1, 2), "0 0");
        checks.same("01 on the public one", t.why(1, 3), 0);
        checks.same("01 on the open one", t.why(1, 0), 0);
        checks.same("01 on the closed one", t.why(1, 2), 4);
        checks.same("three plays of one tile", t.state(10) + " " + t.player(1, 3), "3 1");
        checks.answers("a play on a closed one of another", STATE, () -> t.play(1, 2));
    }

    private static void onlyTheTrainOfTheDouble() {
        HubTrains t = played(TWO_DRAWS, 1, 3, 2, 1, 3, 2);
        t.draw();
        t.play(11, 3);
        t.draw();
        checks.same("04 would fit on the own train", t.train(0, 1) + " " + t.why(4, 0) + " " + t.why(4, 3), "0 3 5");
        t.pass();
        checks.same("12 would fit on the own train", t.train(1, 1) + " " + t.why(12, 1), "2 3");
        checks.same("12 on the open one", t.train(0, 2) + " " + t.why(12, 0), "1 3");
        checks.same("12 on a closed one", t.why(12, 2), 3);
        checks.same("12 on that train", t.why(12, 3), 0);
        checks.same("only there", t.state(10) + " " + t.player(1, 3), "3 3");
        checks.answers("a play elsewhere", STATE, () -> t.play(12, 1));
    }

    private static void alsoTheTrainOfAnotherWithTheDouble() {
        HubTrains t = played(COVER, 1, 0, 3, 1, 2, 3, 11, 0);
        checks.same("none of the player fits", t.state(10) + " " + t.why(33, 0), "0 5");
        t.pass();
        checks.same("12 of the next one", t.state(10) + " " + t.why(12, 0), "1 0");
        checks.same("is played there", t.play(12, 0) + " " + t.state(6) + " " + t.laid(0, 2), "2 -1 12");
    }

    private static void theOwnTrainIsClosedByAPlayOnIt() {
        HubTrains t = Checks.loaded(THREE);
        t.pass();
        t.play(1, 0);
        t.play(2, 3);
        t.play(12, 0);
        checks.same("by a tile", t.train(0, 2), 0);
        HubTrains doubles = Checks.loaded(THREE);
        doubles.pass();
        doubles.play(1, 0);
        doubles.play(2, 3);
        doubles.play(12, 3);
        doubles.play(13, 0);
        doubles.play(3, 2);
        checks.same("open", doubles.train(0, 2), 1);
        doubles.play(33, 0);
        checks.same("by a double", doubles.train(0, 2) + " " + doubles.state(6) + " " + doubles.state(8), "0 0 0");
    }

    private static void otherPlaysCloseNoTrain() {
        HubTrains t = Checks.loaded(THREE);
        t.pass();
        t.play(1, 0);
        checks.same("a play of another", t.train(0, 2), 1);
        t.play(2, 3);
        checks.same("a play of another on another", t.train(0, 2), 1);
        t.play(22, 3);
        checks.same("an own double on the public one", t.train(0, 2), 1);
        t.play(12, 3);
        checks.same("an own tile on the public one", t.train(0, 2), 1);
    }

    private static void aDoubleStaysOnTurn() {
        HubTrains t = played(COVER, 1, 0, 3, 1, 2, 3);
        checks.same("nothing uncovered", t.state(4) + " " + t.state(6), "0 -1");
        t.play(11, 0);
        checks.same("the double", t.state(4) + " " + t.state(6) + " " + t.train(0, 1), "0 0 1");
    }

    private static void behindADoubleThePlayerDidNotDraw() {
        HubTrains t = played(TWO_DRAWS, 1, 3, 2, 1, 3, 2);
        checks.same("a double is drawn", t.draw() + " " + t.state(5), "11 1");
        t.play(11, 3);
        checks.same("did not draw", t.state(4) + " " + t.state(5), "0 0");
        checks.answers("so it cannot pass", STATE, () -> t.pass());
        checks.same("and draws again", t.draw() + " " + t.state(5), "4 1");
    }

    private static void aCoverLeavesNothingUncovered() {
        HubTrains t = played(COVER, 1, 0, 3, 1, 2, 3, 11, 0);
        t.pass();
        t.play(12, 0);
        checks.same("nothing uncovered, the next on turn", t.state(6) + " " + t.state(4), "-1 2");
        checks.same("other trains are free again", t.why(23, 3) + " " + t.why(23, 0), "0 0");
        checks.same("closed ones are not", t.why(13, 1), 4);
    }

    private static void behindTheLastPlayerComesPlayerZero() {
        HubTrains two = played(ROWS, 3, 0);
        checks.same("of two: 1", two.state(4), 1);
        two.play(23, 1);
        checks.same("of two: 0", two.state(4), 0);
        HubTrains three = played(COVER, 1, 0, 3, 1);
        checks.same("of three: 2", three.state(4), 2);
        three.play(2, 3);
        checks.same("of three: 0", three.state(4), 0);
        HubTrains four = played(FOUR, 1, 4, 2, 1, 4, 2);
        checks.same("of four: 3", four.state(4), 3);
        four.play(3, 3);
        checks.same("of four: 0", four.state(4), 0);
        HubTrains passing = stuck();
        passing.draw();
        checks.same("behind a pass of the last: 0", passing.pass() + " " + passing.state(4), "0 0");
    }

    private static void theNextPlayerDidNotDraw() {
        HubTrains t = new HubTrains();
        t.draw();
        checks.same("drew", t.state(5), 1);
        t.pass();
        checks.same("behind a pass", t.state(4) + " " + t.state(5), "1 0");
        t.draw();
        checks.same("drew, and can play on three trains", t.state(5) + " " + t.state(10), "1 3");
        t.play(3, 1);
        checks.same("behind a play", t.state(4) + " " + t.state(5), "0 0");
    }

    private static void drawOnlyWithoutAPlay() {
        HubTrains t = Checks.loaded(ROWS);
        checks.same("a play, and a stock", t.state(10) + " " + t.state(7), "2 1");
        checks.answers("a play", STATE, () -> t.draw());
        HubTrains none = new HubTrains();
        checks.answers("no play", 0, () -> none.draw());
    }

    private static void drawOnlyOnce() {
        HubTrains t = new HubTrains();
        t.draw();
        checks.same("no play, and a stock", t.state(10) + " " + t.state(7), "0 6");
        checks.answers("twice", STATE, () -> t.draw());
    }

    private static void drawOnlyFromAStock() {
        checks.answers("no tile in the stock", STATE, () -> Checks.loaded(THREE).draw());
        HubTrains t = stuck();
        checks.same("one of two", t.draw() + " " + t.state(7), "44 1");
        t.pass();
        checks.same("the last one", t.draw() + " " + t.state(7), "33 0");
        t.pass();
        checks.answers("none", STATE, () -> t.draw());
    }

    private static void passOnlyWithoutAPlay() {
        HubTrains t = Checks.loaded(THREE);
        t.pass();
        checks.same("a play, no stock", t.state(10) + " " + t.state(7), "3 0");
        checks.answers("no stock", STATE, () -> t.pass());
        HubTrains drew = played(TWO_DRAWS, 1, 3, 2, 1, 3, 2);
        drew.draw();
        checks.same("a play of the tile that was drawn", drew.state(10) + " " + drew.state(5), "1 1");
        checks.answers("behind a draw", STATE, () -> drew.pass());
    }

    private static void passOnlyBehindADrawOrWithoutAStock() {
        HubTrains t = stuck();
        checks.answers("a stock, no draw", STATE, () -> t.pass());
        t.draw();
        checks.answers("a stock, a draw", 0, () -> t.pass());
        t.draw();
        checks.answers("no stock, a draw", 1, () -> t.pass());
        checks.answers("no stock, no draw", 2, () -> t.pass());
    }

    private static void aPassOpensTheOwnTrain() {
        HubTrains t = stuck();
        checks.same("all closed", t.train(0, 2) + " " + t.train(1, 2) + " " + t.train(2, 2), "0 0 0");
        t.draw();
        checks.same("not by a draw", t.train(2, 2), 0);
        t.pass();
        checks.same("only the own one", t.train(0, 2) + " " + t.train(1, 2) + " " + t.train(2, 2), "0 0 1");
        t.draw();
        t.pass();
        checks.same("of player 0", t.train(0, 2) + " " + t.train(1, 2) + " " + t.train(2, 2), "1 0 1");
        t.pass();
        t.pass();
        checks.same("also of the last one", t.train(0, 2) + " " + t.train(1, 2) + " " + t.train(2, 2), "1 1 1");
    }

    private static void anUncoveredDoubleStaysSo() {
        HubTrains t = stuck();
        t.draw();
        t.pass();
        checks.same("behind a pass", t.state(6), 3);
        t.draw();
        checks.same("behind a draw", t.state(6), 3);
        t.pass();
        t.pass();
        t.pass();
        checks.same("when the round is over", t.state(8) + " " + t.state(6), "1 3");
        t.deal(1, 1);
        checks.same("not behind a deal", t.state(6), -1);
    }

    private static void theLastTileEndsTheRound() {
        HubTrains t = Checks.loaded("trains 3 2 1; give 0 0-3; give 1 2-3;");
        checks.same("not over", t.state(8) + " " + t.state(9), "0 0");
        t.play(3, 0);
        checks.same("over", t.state(8) + " " + t.state(9) + " " + t.state(4) + " " + t.state(5), "1 1 0 0");
        HubTrains two = played("trains 3 2 2; give 0 0-3 1-3; give 1 2-3 2-2;", 3, 0);
        checks.same("one tile is left", two.state(8) + " " + two.player(0, 0), "0 1");
    }

    private static void aDoubleAsTheLastTileEndsTheRound() {
        HubTrains t = played("trains 3 2 2; hub 0; give 0 0-3 3-3; give 1 0-1 1-2;", 3, 0, 1, 1);
        t.play(33, 0);
        checks.same("over, and uncovered", t.state(8) + " " + t.state(6) + " " + t.state(4), "1 0 0");
        HubTrains two = played("trains 3 2 3; hub 0; give 0 0-3 3-3 1-1; give 1 0-1 1-2 2-2;", 3, 0, 1, 1, 33, 0);
        checks.same("one tile is left", two.state(8) + " " + two.state(6), "0 0");
    }

    private static void aLastTileOnEachKindOfTrainEndsTheRound() {
        String one = "trains 3 2 1; give 0 0-3; give 1 2-3;";
        checks.same("on the own train", played(one, 3, 0).state(8), 1);
        checks.same("on the public train", played(one, 3, 2).state(8), 1);
        HubTrains open = alone(3, 0, 1, 11, 12, 22, 2);
        open.play(13, 2);
        open.pass();
        checks.same("not yet", open.state(8) + " " + open.player(0, 0), "0 1");
        open.play(23, 1);
        checks.same("on an open one of another", open.state(8) + " " + open.player(0, 0), "1 0");
    }

    private static void aHandThatIsEmptyWithoutAPlayEndsNothing() {
        HubTrains t = Checks.loaded("trains 3 4 12;");
        checks.same("three hands are empty", t.player(1, 0) + t.player(2, 0) + t.player(3, 0) + t.state(8), 0);
        t.play(3, 0);
        for (int p = 1; p <= 3; p++) {
            checks.same("an empty hand is on turn", t.state(4) + " " + t.state(8), p + " 0");
            t.pass();
        }
        checks.same("not over by their passes", t.state(8) + " " + t.state(4) + " " + t.state(11), "0 0 3");
        t.play(13, 4);
        checks.same("nor by a play of another", t.state(8) + " " + t.state(4), "0 1");
    }

    private static void passesOfAllEndTheRound() {
        HubTrains three = stuck();
        three.draw();
        three.pass();
        three.draw();
        three.pass();
        three.pass();
        checks.same("two passes of three", three.state(8) + " " + three.state(11), "0 2");
        checks.same("the last pass tells the player who passed", three.pass(), 2);
        checks.same("three of three",
                three.state(8) + " " + three.state(11) + " " + three.state(4) + " " + three.state(5), "1 3 2 0");
        HubTrains four = fourStuck();
        four.pass();
        four.pass();
        four.pass();
        checks.same("three passes of four", four.state(8) + " " + four.state(11), "0 3");
        four.pass();
        checks.same("four of four", four.state(8) + " " + four.state(11) + " " + four.state(4), "1 4 3");
    }

    private static void passesOfAllButOneEndNothing() {
        HubTrains t = played("trains 3 2 9;", 3, 0);
        t.pass();
        checks.same("one pass of two", t.state(8) + " " + t.state(11), "0 1");
        t.play(1, 0);
        t.pass();
        checks.same("one pass of two again", t.state(8) + " " + t.state(11), "0 1");
    }

    private static void aPlayBetweenPassesCountsThemAnew() {
        HubTrains t = Checks.loaded(THREE);
        t.pass();
        checks.same("a pass", t.state(11), 1);
        t.play(1, 1);
        checks.same("a play", t.state(11), 0);
        HubTrains doubles = played(TWO_DRAWS, 1, 3, 2, 1, 3, 2);
        doubles.draw();
        doubles.play(11, 3);
        doubles.draw();
        doubles.pass();
        doubles.play(12, 3);
        checks.same("a play that covers", doubles.state(11), 0);
        HubTrains last = played("trains 3 2 9;", 3, 0);
        last.pass();
        last.play(0, 0);
        checks.same("a play of a double", last.state(11), 0);
    }

    private static void aDrawBetweenPassesCountsThemAnew() {
        HubTrains t = stuck();
        t.draw();
        t.pass();
        checks.same("a pass", t.state(11), 1);
        t.draw();
        checks.same("a draw", t.state(11), 0);
        t.pass();
        t.pass();
        checks.same("three passes, with a draw between", t.state(8) + " " + t.state(11), "0 2");
    }

    private static void pipsAreAddedToTheTotals() {
        HubTrains t = stuck();
        checks.same("during the round", t.player(0, 2) + " " + t.player(1, 2) + " " + t.player(2, 2), "0 0 0");
        t.auto(200);
        checks.same("22 33, 23, 24 44", t.player(0, 2) + " " + t.player(1, 2) + " " + t.player(2, 2), "10 5 14");
        t.deal(4, 9);
        checks.same("the totals stay", t.player(0, 2) + " " + t.player(1, 2) + " " + t.player(2, 2), "10 5 14");
        t.auto(200);
        checks.same("a second round is over", t.state(8) + " " + t.state(9), "1 2");
        int[] due = {10 + t.player(0, 1), 5 + t.player(1, 1), 14 + t.player(2, 1)};
        checks.same("they add up",
                t.player(0, 2) + " " + t.player(1, 2) + " " + t.player(2, 2), due[0] + " " + due[1] + " " + due[2]);
        HubTrains four = fourStuck();
        four.auto(200);
        checks.same("22 23 44, 24, 33, 34",
                four.player(0, 2) + " " + four.player(1, 2) + " " + four.player(2, 2) + " " + four.player(3, 2),
                "17 6 6 7");
    }

    private static void nothingGoesOnWhenTheRoundIsOver() {
        HubTrains play = roundOver();
        checks.answers("a play that would fit", STATE, () -> play.play(23, 1));
        checks.answers("a draw", STATE, () -> play.draw());
        checks.answers("a pass", STATE, () -> play.pass());
        checks.same("no step", play.auto(200) + " " + play.stepsToEnd() + " " + play.best(), "0 0 -1");
        HubTrains passes = stuck();
        passes.auto(200);
        checks.answers("a pass behind passes, without a stock", STATE, () -> passes.pass());
        checks.answers("a draw behind passes", STATE, () -> passes.draw());
        passes.deal(0, 1);
        checks.same("until the next round is dealt", passes.state(8) + " " + (passes.auto(1) == 1), "0 true");
    }

    private static void theRoundThatIsOver() {
        HubTrains t = roundOver();
        checks.same("behind a play", t.state(10) + " " + t.state(11) + " " + t.player(1, 3), "0 0 0");
        t.auto(1);
        checks.same("no round is over twice", t.state(9) + " " + t.player(1, 2), "1 5");
    }
}
