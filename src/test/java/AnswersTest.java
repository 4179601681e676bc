import java.math.BigInteger;

/** The sentences of promises 5 to 25 that name a boundary case of an answer, with a test for each one. */
public final class AnswersTest extends Scenes {
    private static final Checks checks = new Checks("AnswersTest");

    public static void main(String[] args) {
        eachNumberOfTheState();
        theTrainWithTheDouble();
        tilesInTheStock();
        playsThatCanBeMade();
        passesSoFar();
        whoPlayedOrPassedLast();
        eachNumberOfAPlayer();
        playableTilesOfAPlayer();
        placesOfAHand();
        eachNumberOfATrain();
        placesOfATrain();
        theFirstReasonThatApplies();
        noBestPlay();
        theGreatestCodeOfABestPlay();
        noRow();
        aRowOfAllTiles();
        moreThan12Tiles();
        rowsBeginAtTheEndOfTheOwnTrain();
        aDoubleInARow();
        placesOfTheLongestRow();
        theFirstOfTheLongestRows();
        theHeaviestRow();
        theWinnerOfARoundThatIsOver();
        ofSeveralWinnersTheSmallestIndex();
        aWinnerIsOnlyForetold();
        stepsToTheEnd();
        noTilesForAMean();
        aMeanThatIsNoWholeNumber();
        thePlayedTrainsEnd();
        aDrawnTile();
        whoIsOnTurnBehindAPass();
        stepsThatWereMade();
        theNextRound();
        theChecksumWraps();
        checks.end();
    }

    private static void eachNumberOfTheState() {
        HubTrains t = played(DOUBLES, 13, 2);
        int[] due = {3, 2, 4, 3, 1, 0, -1, 1, 0, 0, 3, 0, 1};
        for (int what = 0; what <= 12; what++) {
            checks.same("state " + what, t.state(what), due[what]);
        }
        for (int what : new int[] {MIN, -1, 13, MAX}) {
            checks.answers("state " + what, ARGUMENT, () -> t.state(what));
        }
    }

    private static void theTrainWithTheDouble() {
        HubTrains t = Checks.loaded("trains 3 2 9;");
        checks.same("none", t.state(6), -1);
        HubTrains own = alone(3);
        own.play(0, 0);
        checks.same("train 0", own.state(6), 0);
        own.play(1, 0);
        checks.same("covered", own.state(6), -1);
        checks.same("the public train of three players", stuck().state(6), 3);
        checks.same("the public train of four players", fourStuck().state(6), 4);
    }

    private static void tilesInTheStock() {
        checks.same("none", Checks.loaded(THREE).state(7), 0);
        checks.same("one", Checks.loaded(ROWS).state(7), 1);
        checks.same("the most", Checks.loaded("trains 9 2 1;").state(7), 52);
        HubTrains t = stuck();
        t.draw();
        checks.same("one less", t.state(7), 1);
    }

    private static void playsThatCanBeMade() {
        checks.same("none", Checks.loaded(THREE).state(10), 0);
        checks.same("a tile on two trains", Checks.loaded(ROWS).state(10), 2);
        checks.same("none when the round is over", roundOver().state(10), 0);
        HubTrains t = Checks.loaded(THREE);
        t.pass();
        checks.same("a tile on three trains", t.state(10), 3);
        checks.same("nine tiles, three of which fit on two trains", Checks.loaded("trains 3 2 9;").state(10), 6);
        HubTrains zero = alone(3, 1, 13, 23, 2);
        checks.same("00 alone", zero.state(10) + " " + zero.player(0, 3) + " " + zero.best(), "1 1 0");
        checks.answers("it has to be played", STATE, () -> zero.pass());
    }

    private static void passesSoFar() {
        HubTrains t = stuck();
        checks.same("behind a play", t.state(11), 0);
        t.draw();
        t.pass();
        checks.same("one", t.state(11), 1);
        t.draw();
        checks.same("behind a draw", t.state(11), 0);
        t.auto(3);
        checks.same("as many as players", t.state(8) + " " + t.state(11), "1 3");
        t.deal(0, 1);
        checks.same("in the next round", t.state(11), 0);
        checks.same("over by a play", roundOver().state(11), 0);
    }

    private static void whoPlayedOrPassedLast() {
        HubTrains first = roundOver();
        checks.same("player 0 played", first.state(4) + " " + first.state(5), "0 0");
        HubTrains second = Checks.loaded("trains 3 2 4; hub 0; give 0 1-1 2-2 1-2 2-3; give 1 0-3 3-3 1-3 0-2;");
        second.draw();
        for (int[] play : new int[][] {{1, 0}, {2, 1}, {12, 0}, {3, 2}, {23, 0}, {33, 2}, {13, 2}}) {
            second.play(play[0], play[1]);
        }
        checks.same("player 1 played", second.state(8) + " " + second.state(4) + " " + second.state(5), "1 1 0");
        HubTrains three = stuck();
        three.auto(200);
        checks.same("player 2 passed", three.state(4) + " " + three.state(5), "2 0");
        HubTrains four = fourStuck();
        four.auto(200);
        checks.same("player 3 passed", four.state(4) + " " + four.state(5), "3 0");
    }

    private static void eachNumberOfAPlayer() {
        HubTrains t = Checks.loaded(ROWS);
        checks.same("numbers", t.player(0, 0) + " " + t.player(0, 1) + " " + t.player(0, 2) + " " + t.player(0, 3),
                "4 10 0 1");
        for (int what : new int[] {MIN, -1, 4, MAX}) {
            checks.answers("number " + what, ARGUMENT, () -> t.player(0, what));
        }
        HubTrains none = Checks.loaded("trains 3 2 9;");
        checks.same("of an empty hand", none.player(1, 0) + " " + none.player(1, 1), "0 0");
    }

    private static void playableTilesOfAPlayer() {
        HubTrains t = Checks.loaded(ROWS);
        checks.same("a tile that fits twice is one", t.player(0, 3) + " " + t.state(10), "1 2");
        checks.same("not on turn, though 13 and 23 fit", t.player(1, 3), 0);
        HubTrains over = roundOver();
        checks.same("over, though 23 fits", over.player(0, 3) + " " + over.player(1, 3), "0 0");
        HubTrains drew = stuck();
        checks.same("none", drew.player(2, 3), 0);
    }

    private static void placesOfAHand() {
        HubTrains t = Checks.loaded(ROWS);
        checks.same("the first and the last", t.tile(0, 0) + " " + t.tile(0, 3), "1 22");
        for (int k : new int[] {MIN, -1, 4, 5, MAX}) {
            checks.answers("place " + k + " of 4", ELEMENT, () -> t.tile(0, k));
        }
        HubTrains none = Checks.loaded("trains 3 2 9;");
        checks.same("the ninth", none.tile(0, 8), 23);
        checks.answers("place 0 of an empty hand", ELEMENT, () -> none.tile(1, 0));
        HubTrains large = largeHand();
        checks.same("the thirteenth", large.player(0, 0) + " " + (large.tile(0, 12) > large.tile(0, 11)), "13 true");
    }

    private static void eachNumberOfATrain() {
        HubTrains t = alone(3);
        checks.same("no tile", trainNumbers(t, 2), "0 3 1 -1 0");
        checks.same("one tile", trainNumbers(t, 0), "1 0 0 3 3");
        t.play(0, 0);
        checks.same("the last tile is 00", trainNumbers(t, 0), "2 0 0 0 3");
        checks.same("open", trainNumbers(t, 1), "0 3 1 -1 0");
        for (int what : new int[] {MIN, -1, 5, MAX}) {
            checks.answers("number " + what, ARGUMENT, () -> t.train(0, what));
        }
        HubTrains all = alone(3, 0, 1, 11, 12, 22, 23, 13);
        checks.same("eight tiles", trainNumbers(all, 0), "8 1 0 13 22");
    }

    private static void placesOfATrain() {
        HubTrains t = alone(3, 0, 1);
        checks.same("next to the hub and the last", t.laid(0, 0) + " " + t.laid(0, 1) + " " + t.laid(0, 2), "3 0 1");
        for (int k : new int[] {MIN, -1, 3, 4, MAX}) {
            checks.answers("place " + k + " of 3", ELEMENT, () -> t.laid(0, k));
        }
        checks.answers("place 0 of an empty train", ELEMENT, () -> t.laid(1, 0));
        checks.answers("place 0 of the empty public train", ELEMENT, () -> t.laid(2, 0));
    }

    private static void theFirstReasonThatApplies() {
        HubTrains t = stuck();
        checks.same("0 none", Checks.loaded(ROWS).why(3, 0), 0);
        checks.same("2 before 3", t.why(22, 0), 2);
        checks.same("3 before 4", t.why(24, 0) + " " + t.train(0, 2), "3 0");
        checks.same("3 before 5", t.why(24, 2) + " " + t.train(2, 1), "3 1");
        checks.same("5 on the train with the double", t.why(24, 3), 5);
        checks.same("2 before 5", t.why(44, 3), 2);
        HubTrains closed = Checks.loaded(ROWS);
        checks.same("2 before 4", closed.why(13, 1), 2);
        checks.same("4 before 5", closed.why(11, 1), 4);
        checks.same("4 though it fits", closed.why(3, 1), 4);
        checks.same("5", closed.why(11, 0) + " " + closed.why(11, 2), "5 5");
        t.auto(200);
        checks.same("1 before 2", t.why(22, 3), 1);
        checks.same("1 before 3", t.why(24, 0), 1);
        checks.same("1 before 5", t.why(24, 3), 1);
        checks.same("1 though it would fit", roundOver().why(3, 1), 1);
    }

    private static void noBestPlay() {
        checks.same("nothing fits", Checks.loaded(THREE).best(), -1);
        checks.same("only the double could be covered", stuck().best(), -1);
        checks.same("the round is over", roundOver().best(), -1);
        HubTrains none = alone(3);
        none.play(1, 0);
        checks.same("an empty hand", none.state(4) + " " + none.best(), "1 -1");
    }

    private static void theGreatestCodeOfABestPlay() {
        HubTrains t = played("trains 9 4 2; hub 0; give 0 0-9 1-1; give 1 9-9 2-2;", 9, 4);
        checks.same("99 on the public train of four", t.best(), 994);
        HubTrains least = alone(3);
        least.play(0, 0);
        checks.same("01 on train 0", least.best(), 20);
    }

    private static void noRow() {
        checks.same("nothing fits", Checks.loaded(THREE).longest(0) + " " + Checks.loaded(THREE).heaviest(0), "0 0");
        HubTrains none = Checks.loaded("trains 3 2 9;");
        checks.same("an empty hand", none.longest(1) + " " + none.heaviest(1), "0 0");
        checks.answers("no place of it", ELEMENT, () -> none.longestTile(1, 0));
    }

    private static void aRowOfAllTiles() {
        HubTrains t = Checks.loaded(TWELVE + "2-4;");
        checks.same("12 of 12", t.longest(0) + " " + t.heaviest(0) + " " + t.player(0, 1), "12 40 40");
        HubTrains one = Checks.loaded("trains 3 2 1; give 0 0-3;");
        checks.same("1 of 1", one.longest(0) + " " + one.heaviest(0), "1 3");
        checks.same("8 of 9, as each number has three more tiles", Checks.loaded("trains 3 2 9;").longest(0), 8);
    }

    private static void moreThan12Tiles() {
        HubTrains twelve = Checks.loaded("trains 9 2 12;");
        checks.same("12 tiles are searched", (twelve.longest(0) > 0) + " " + (twelve.heaviest(0) > 0), "true true");
        HubTrains t = largeHand();
        checks.same("13 tiles", t.longest(0) + " " + t.heaviest(0), "-2 -2");
        for (int k : new int[] {-1, 0, 1, 12}) {
            checks.answers("place " + k + " of 13 tiles", ELEMENT, () -> t.longestTile(0, k));
        }
        checks.same("the other hand", t.longest(1) + " " + t.heaviest(1), "0 0");
        HubTrains back = twelveAgain();
        checks.same("12 tiles again", back.player(0, 0) + " " + (back.longest(0) >= 0), "12 true");
    }

    /** Player 0 draws a thirteenth tile, which is 0x, and plays it. */
    private static HubTrains twelveAgain() {
        for (int seed = 0; seed <= 9999; seed++) {
            HubTrains t = Checks.loaded("trains 9 2 12; hub 0; give 0 1-1 2-2 3-3 4-4 5-5 6-6 7-7 8-8 9-9 8-9 7-9 6-9;"
                    + "seed " + seed + ";");
            int drawn = t.draw();
            if (drawn < 10) {
                checks.same("13 tiles", t.longest(0) + " " + t.heaviest(0), "-2 -2");
                t.play(drawn, 0);
                return t;
            }
        }
        return largeHand();
    }

    private static void rowsBeginAtTheEndOfTheOwnTrain() {
        HubTrains t = Checks.loaded(THREE);
        checks.same("from the hub, as the train is empty", row(t, 1), "1 11 13");
        HubTrains laid = played(ROWS, 3, 2);
        checks.same("not from the end of the public train", laid.train(2, 1) + " " + row(laid, 0), "0 ");
        checks.same("also when a double lies uncovered elsewhere", stuck().state(6) + " " + row(stuck(), 1), "3 23");
        checks.same("when the round is over", roundOver().longest(1), 1);
        checks.same("also of a player who is not on turn", Checks.loaded(ROWS).longest(1), 3);
        checks.same("from the end behind a play", row(played(ROWS, 3, 0), 0), "1 11");
    }

    private static void aDoubleInARow() {
        HubTrains t = Checks.loaded("trains 3 2 3; give 0 0-3 0-0 0-1;");
        checks.same("between two tiles", row(t, 0), "3 0 1");
        HubTrains last = Checks.loaded("trains 3 2 2; give 0 0-3 0-0;");
        checks.same("as the last one", row(last, 0), "3 0");
        HubTrains first = Checks.loaded("trains 3 2 2; give 0 1-1 0-1;");
        checks.same("not where it does not fit", first.longest(0), 0);
        HubTrains second = alone(3);
        checks.same("as the first one", second.longestTile(0, 0), 0);
    }

    private static void placesOfTheLongestRow() {
        HubTrains t = Checks.loaded(ROWS);
        checks.same("the first and the last", t.longestTile(0, 0) + " " + t.longestTile(0, 2), "3 11");
        for (int k : new int[] {MIN, -1, 3, 4, MAX}) {
            checks.answers("place " + k + " of 3", ELEMENT, () -> t.longestTile(0, k));
        }
        HubTrains all = Checks.loaded(TWELVE + "2-4;");
        checks.same("the twelfth", all.longestTile(0, 11) >= 0, true);
        checks.answers("a thirteenth", ELEMENT, () -> all.longestTile(0, 12));
    }

    private static void theFirstOfTheLongestRows() {
        HubTrains t = Checks.loaded("trains 3 2 4; give 0 0-3 1-3 0-2 1-2;");
        checks.same("the less first tile", row(t, 0), "3 2 12 13");
        HubTrains later = Checks.loaded("trains 4 2 4; give 0 3-4 1-3 0-3 0-0;");
        checks.same("the less second tile", row(later, 0), "34 3 0");
        HubTrains longer = Checks.loaded("trains 4 2 4; give 0 0-4 1-4 1-2 2-2;");
        checks.same("not a shorter one", row(longer, 0), "14 12 22");
    }

    private static void theHeaviestRow() {
        HubTrains t = Checks.loaded("trains 9 2 5; hub 0; give 0 0-1 1-2 2-2 0-9 9-9;");
        checks.same("not the longest", t.longest(0) + " " + t.heaviest(0), "3 27");
        HubTrains light = alone(3, 1, 12, 2);
        checks.same("a row of no pips", light.longest(0) + " " + light.heaviest(0), "1 0");
        HubTrains part = Checks.loaded("trains 9 2 3; hub 0; give 0 0-1 0-9 1-2;");
        checks.same("a shorter one", part.longest(0) + " " + part.heaviest(0), "2 9");
    }

    private static void theWinnerOfARoundThatIsOver() {
        HubTrains t = stuck();
        t.auto(200);
        checks.same("10, 5 and 14 pips", t.winner(), 1);
        checks.same("an empty hand", roundOver().winner(), 0);
        HubTrains four = fourStuck();
        checks.same("foretold", four.winner(), 1);
    }

    private static void ofSeveralWinnersTheSmallestIndex() {
        HubTrains four = fourStuck();
        four.auto(200);
        checks.same("17, 6, 6 and 7 pips",
                four.player(0, 1) + " " + four.player(1, 1) + " " + four.player(2, 1) + " " + four.player(3, 1), "17 6 6 7");
        checks.same("1 of 1 and 2", four.winner(), 1);
        HubTrains zero = Checks.loaded("trains 3 2 1; give 0 0-3; give 1 0-0;");
        checks.same("0 of 0 and 1, foretold", zero.winner(), 0);
        zero.play(3, 0);
        checks.same("0 and 0 pips", zero.player(0, 1) + " " + zero.player(1, 1) + " " + zero.winner(), "0 0 0");
    }

    private static void aWinnerIsOnlyForetold() {
        HubTrains t = stuck();
        long before = t.checksum();
        checks.same("steps", t.stepsToEnd() + " " + t.winner() + " " + t.stepsToEnd(), "6 1 6");
        checks.same("no number changes", t.checksum(), before);
        checks.same("the stock stays", t.draw(), 44);
        checks.same("by the rank", Checks.loaded(ROWS + "rank public;").stepsToEnd(),
                Checks.loaded(ROWS + "rank public;").auto(200));
    }

    private static void stepsToTheEnd() {
        checks.same("over by a play", roundOver().stepsToEnd(), 0);
        HubTrains t = stuck();
        t.auto(200);
        checks.same("over by passes", t.stepsToEnd(), 0);
        checks.same("one play", Checks.loaded("trains 3 2 1; give 0 0-3; give 1 2-3;").stepsToEnd(), 1);
        checks.same("a draw and a pass, again, and two passes", stuck().stepsToEnd(), 6);
        checks.same("a long round", Checks.loaded("trains 9 2 1;hub 9;seed 80;rank 0-own;").stepsToEnd(),
                Checks.loaded("trains 9 2 1;hub 9;seed 80;rank 0-own;").auto(200));
    }

    private static void noTilesForAMean() {
        HubTrains t = alone(3, 0, 1, 11, 12, 22, 2);
        t.play(13, 2);
        t.pass();
        checks.same("one tile", t.meanPips(), 5.0);
        t.play(23, 1);
        checks.same("none", t.meanPips(), 0.0);
        HubTrains zero = Checks.loaded("trains 3 2 1; give 0 0-3; give 1 0-0;");
        zero.play(3, 0);
        checks.same("one tile without pips", zero.meanPips(), 0.0);
    }

    private static void aMeanThatIsNoWholeNumber() {
        checks.same("22 pips of 8 tiles", Checks.loaded(ROWS).meanPips(), 2.75);
        checks.same("14 pips of 6 tiles", played(ROWS, 3, 0, 23, 1).meanPips(), 14.0 / 6.0);
        checks.same("30 pips of 9 tiles", Checks.loaded(THREE).meanPips(), 30.0 / 9.0);
    }

    private static void thePlayedTrainsEnd() {
        checks.same("the end 0", Checks.loaded(ROWS).play(3, 0), 0);
        checks.same("on the public train", Checks.loaded(ROWS).play(3, 2), 0);
        checks.same("of the last tile", Checks.loaded("trains 3 2 1; give 0 0-3; give 1 2-3;").play(3, 0), 0);
        checks.same("of a double", alone(3, 1).play(11, 0), 1);
        HubTrains t = Checks.loaded(THREE);
        t.pass();
        checks.same("on an open train", t.play(1, 0), 1);
    }

    private static void aDrawnTile() {
        HubTrains t = new HubTrains();
        checks.same("00 is 0", t.draw(), 0);
        checks.same("it is in the hand", t.tile(0, 0) + " " + t.player(0, 0), "0 2");
    }

    private static void whoIsOnTurnBehindAPass() {
        HubTrains t = stuck();
        t.draw();
        checks.same("behind player 2", t.pass(), 0);
        t.draw();
        checks.same("behind player 0", t.pass(), 1);
        checks.same("behind player 1", t.pass(), 2);
        checks.same("at the end who passed last", t.pass() + " " + t.state(4), "2 2");
    }

    private static void stepsThatWereMade() {
        HubTrains t = stuck();
        checks.same("1", t.auto(1), 1);
        checks.same("4 of 4", t.auto(4), 4);
        checks.same("not over", t.state(8), 0);
        checks.same("1 of 200", t.auto(200) + " " + t.state(8), "1 1");
        checks.same("none when the round is over", t.auto(1) + " " + t.auto(200), "0 0");
        HubTrains exact = stuck();
        checks.same("just as many as there are", exact.auto(6) + " " + exact.state(8), "6 1");
        for (int steps : new int[] {MIN, -1, 0, 201, MAX}) {
            checks.answers(steps + " steps", ARGUMENT, () -> stuck().auto(steps));
        }
    }

    private static void theNextRound() {
        HubTrains t = roundOver();
        checks.same("the least hub and seed", t.deal(0, 0) + " " + t.state(3), "7 0");
        t.undo();
        checks.same("the greatest hub and seed", t.deal(3, 9999) + " " + t.state(3), "7 3");
        t.undo();
        checks.same("without tiles that are given",
                t.deal(3, 1) + " " + hand(t, 0) + " " + hand(t, 1), "7 " + hand(new HubTrains(), 0) + " "
                        + hand(new HubTrains(), 1));
        HubTrains none = alone(3, 0, 1, 11, 12, 22, 23, 13);
        none.pass();
        checks.same("no stock", none.deal(2, 5) + " " + none.player(0, 0) + " " + none.player(1, 0), "0 9 0");
        checks.same("rounds", none.state(9), 1);
        for (int train = 0; train <= 2; train++) {
            int empty = train;
            checks.same("an empty train", trainNumbers(none, train), "0 2 " + train / 2 + " -1 0");
            checks.answers("no tile of it", ELEMENT, () -> none.laid(empty, 0));
        }
    }

    private static void theChecksumWraps() {
        checksum("a new object", new HubTrains());
        checksum("four hands of 12", Checks.loaded("trains 9 4 12; seed 77;"));
        checksum("an empty hand", roundOver());
        checksum("three empty hands", Checks.loaded("trains 3 4 12;"));
        checksum("13 tiles in a hand", largeHand());
        checksum("passes and a double", stuck());
    }

    private static void checksum(String name, HubTrains t) {
        BigInteger sum = BigInteger.ZERO;
        for (int what = 0; what <= 12; what++) {
            sum = next(sum, t.state(what));
        }
        for (int p = 0; p < t.state(1); p++) {
            for (int what = 0; what <= 3; what++) {
                sum = next(sum, t.player(p, what));
            }
            for (int k = 0; k < t.player(p, 0); k++) {
                sum = next(sum, t.tile(p, k));
            }
        }
        for (int train = 0; train <= t.state(1); train++) {
            for (int what = 0; what <= 4; what++) {
                sum = next(sum, t.train(train, what));
            }
        }
        checks.same(name + ": the sum is above a long", sum.bitLength() > 64, true);
        checks.same(name + ": its last 64 bits", t.checksum(), sum.longValue());
    }

    private static BigInteger next(BigInteger sum, int number) {
        return sum.multiply(BigInteger.valueOf(31)).add(BigInteger.valueOf(number));
    }
}
