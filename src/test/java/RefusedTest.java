/**
 * Calls that are refused: which exception comes first when several apply, and that all stays as it was: each is made on
 * an object of which a second one, made the same way, is asked everything without it.
 */
public final class RefusedTest extends Scenes {
    private static final Checks checks = new Checks("RefusedTest");
    private static final int[] NO_PLAYER_OF_2 = {MIN, -1, 2, MAX};
    private static final int[] NO_TRAIN_OF_3 = {MIN, -1, 3, MAX};
    private static final int[] NO_TILE_UP_TO_3 = {MIN, -1, 4, 10, 14, 21, 30, 32, 34, 44, 99, 100, MAX};

    interface Scene {
        HubTrains make();
    }

    interface Refused {
        Object on(HubTrains t);
    }

    public static void main(String[] args) {
        load();
        state();
        player();
        tile();
        train();
        laid();
        whyAndRankAndPlay();
        rankOfNoPlay();
        rows();
        playOfNoPlay();
        draw();
        pass();
        auto();
        deal();
        inANewObject();
        withMorePlayers();
        whatIsNoException();
        checks.end();
    }

    /** Player 1 is on turn and has plays; a stock, some changes, a text in the buffer and an error offset. */
    private static HubTrains midRound() {
        HubTrains t = played(DOUBLES + "rank 9-pips;", 13, 2);
        Checks.load(t, "trains 3 2 1; hub 4;");
        Checks.append(t, "trains 4 3 2; seed 5;");
        return t;
    }

    /** The round is over, with a text in the buffer. */
    private static HubTrains over() {
        HubTrains t = roundOver();
        Checks.append(t, "trains 4 3 2; seed 5;");
        return t;
    }

    /** Asks for all that later calls could show: the first object goes on, the second one goes back. */
    private static String everything(HubTrains on, HubTrains back) {
        StringBuilder all = new StringBuilder();
        all.append(on.checksum()).append(" ").append(on.errorOffset()).append(" ").append(on.best());
        all.append(" ").append(on.stepsToEnd()).append(" ").append(on.winner()).append(" ").append(on.meanPips());
        all.append(" ").append(row(on, 0)).append(" ").append(on.heaviest(0));
        on.auto(3);
        all.append(" ").append(on.checksum());
        on.auto(200);
        all.append(" ").append(on.checksum());
        for (int k = 0; k < 10; k++) {
            all.append(" ").append(back.undo()).append(" ").append(back.checksum());
        }
        int length = back.append(0x20202020, 0x20202020, 0x20202020, 0x20202020, 0x20202020);
        all.append(" ").append(length).append(" ").append(back.load(length)).append(" ").append(back.checksum());
        return all.toString();
    }

    private static void refused(String call, Scene scene, String exception, Refused made) {
        HubTrains on = scene.make();
        HubTrains back = scene.make();
        checks.answers(call, exception, () -> made.on(on));
        checks.answers(call, exception, () -> made.on(back));
        checks.same(call + " changes nothing", everything(on, back), everything(scene.make(), scene.make()));
    }

    private static void load() {
        for (int length : new int[] {MIN, -1, 41, 60, 500, MAX}) {
            refused("load(" + length + ") of 40 bytes", RefusedTest::midRound, ARGUMENT, t -> t.load(length));
        }
        refused("load(1) of no byte", HubTrains::new, ARGUMENT, t -> t.load(1));
    }

    private static void state() {
        for (int what : new int[] {MIN, -1, 13, MAX}) {
            refused("state(" + what + ")", RefusedTest::midRound, ARGUMENT, t -> t.state(what));
        }
    }

    private static void player() {
        for (int player : NO_PLAYER_OF_2) {
            refused("player(" + player + ", 0)", RefusedTest::midRound, INDEX, t -> t.player(player, 0));
            refused("player(" + player + ", 4)", RefusedTest::midRound, INDEX, t -> t.player(player, 4));
            refused("player(" + player + ", -1)", RefusedTest::midRound, INDEX, t -> t.player(player, -1));
        }
        for (int what : new int[] {MIN, -1, 4, MAX}) {
            refused("player(1, " + what + ")", RefusedTest::midRound, ARGUMENT, t -> t.player(1, what));
        }
    }

    private static void tile() {
        for (int player : NO_PLAYER_OF_2) {
            refused("tile(" + player + ", 0)", RefusedTest::midRound, INDEX, t -> t.tile(player, 0));
            refused("tile(" + player + ", 99)", RefusedTest::midRound, INDEX, t -> t.tile(player, 99));
        }
        for (int k : new int[] {MIN, -1, 4, MAX}) {
            refused("tile(1, " + k + ") of 4", RefusedTest::midRound, ELEMENT, t -> t.tile(1, k));
        }
        refused("tile(0, 0) of 0", RefusedTest::over, ELEMENT, t -> t.tile(0, 0));
    }

    private static void train() {
        for (int train : NO_TRAIN_OF_3) {
            refused("train(" + train + ", 0)", RefusedTest::midRound, INDEX, t -> t.train(train, 0));
            refused("train(" + train + ", 5)", RefusedTest::midRound, INDEX, t -> t.train(train, 5));
            refused("train(" + train + ", -1)", RefusedTest::midRound, INDEX, t -> t.train(train, -1));
        }
        for (int what : new int[] {MIN, -1, 5, MAX}) {
            refused("train(2, " + what + ")", RefusedTest::midRound, ARGUMENT, t -> t.train(2, what));
        }
    }

    private static void laid() {
        for (int train : NO_TRAIN_OF_3) {
            refused("laid(" + train + ", 0)", RefusedTest::midRound, INDEX, t -> t.laid(train, 0));
            refused("laid(" + train + ", 99)", RefusedTest::midRound, INDEX, t -> t.laid(train, 99));
        }
        for (int k : new int[] {MIN, -1, 1, MAX}) {
            refused("laid(2, " + k + ") of 1", RefusedTest::midRound, ELEMENT, t -> t.laid(2, k));
        }
        refused("laid(0, 0) of 0", RefusedTest::midRound, ELEMENT, t -> t.laid(0, 0));
    }

    /** The train is looked at first, then the tile, also when the round is over. */
    private static void whyAndRankAndPlay() {
        for (int train : NO_TRAIN_OF_3) {
            refused("why(23, " + train + ")", RefusedTest::midRound, INDEX, t -> t.why(23, train));
            refused("rank(23, " + train + ")", RefusedTest::midRound, INDEX, t -> t.rank(23, train));
            refused("play(23, " + train + ")", RefusedTest::midRound, INDEX, t -> t.play(23, train));
            refused("why(44, " + train + ")", RefusedTest::midRound, INDEX, t -> t.why(44, train));
            refused("rank(44, " + train + ")", RefusedTest::midRound, INDEX, t -> t.rank(44, train));
            refused("play(44, " + train + ")", RefusedTest::midRound, INDEX, t -> t.play(44, train));
        }
        for (int tile : NO_TILE_UP_TO_3) {
            refused("why(" + tile + ", 0)", RefusedTest::midRound, ARGUMENT, t -> t.why(tile, 0));
            refused("rank(" + tile + ", 0)", RefusedTest::midRound, ARGUMENT, t -> t.rank(tile, 0));
            refused("play(" + tile + ", 0)", RefusedTest::midRound, ARGUMENT, t -> t.play(tile, 0));
        }
        refused("why(44, 0)", RefusedTest::over, ARGUMENT, t -> t.why(44, 0));
        refused("rank(44, 0)", RefusedTest::over, ARGUMENT, t -> t.rank(44, 0));
        refused("play(44, 0)", RefusedTest::over, ARGUMENT, t -> t.play(44, 0));
        refused("play(23, 3)", RefusedTest::over, INDEX, t -> t.play(23, 3));
    }

    private static void rankOfNoPlay() {
        refused("rank, the round is over", RefusedTest::over, ELEMENT, t -> t.rank(23, 1));
        refused("rank, not in the hand", RefusedTest::midRound, ELEMENT, t -> t.rank(0, 1));
        refused("rank, in the hand of another", RefusedTest::midRound, ELEMENT, t -> t.rank(11, 2));
        refused("rank, in the middle", RefusedTest::midRound, ELEMENT, t -> t.rank(33, 1));
        refused("rank, a double elsewhere", Scenes::stuck, ELEMENT, t -> t.rank(24, 1));
        refused("rank, a closed train", RefusedTest::midRound, ELEMENT, t -> t.rank(23, 0));
        refused("rank, does not fit", RefusedTest::midRound, ELEMENT, t -> t.rank(22, 1));
    }

    private static void rows() {
        for (int player : NO_PLAYER_OF_2) {
            refused("longest(" + player + ")", RefusedTest::midRound, INDEX, t -> t.longest(player));
            refused("heaviest(" + player + ")", RefusedTest::midRound, INDEX, t -> t.heaviest(player));
            refused("longestTile(" + player + ", 0)", RefusedTest::midRound, INDEX, t -> t.longestTile(player, 0));
            refused("longestTile(" + player + ", 99)", RefusedTest::midRound, INDEX, t -> t.longestTile(player, 99));
            refused("longestTile(" + player + ", 0) of 13", Scenes::largeHand, INDEX, t -> t.longestTile(player, 0));
        }
        for (int k : new int[] {MIN, -1, 4, MAX}) {
            refused("longestTile(1, " + k + ")", RefusedTest::midRound, ELEMENT, t -> t.longestTile(1, k));
        }
        refused("longestTile(0, 0) of 13", Scenes::largeHand, ELEMENT, t -> t.longestTile(0, 0));
    }

    private static void playOfNoPlay() {
        refused("play, the round is over", RefusedTest::over, STATE, t -> t.play(23, 1));
        refused("play, not in the hand", RefusedTest::midRound, STATE, t -> t.play(0, 1));
        refused("play, in the hand of another", RefusedTest::midRound, STATE, t -> t.play(11, 2));
        refused("play, laid already", RefusedTest::midRound, STATE, t -> t.play(13, 2));
        refused("play, in the stock", RefusedTest::midRound, STATE, t -> t.play(1, 2));
        refused("play, in the middle", RefusedTest::midRound, STATE, t -> t.play(33, 1));
        refused("play, a double elsewhere", Scenes::stuck, STATE, t -> t.play(24, 2));
        refused("play, a closed train", RefusedTest::midRound, STATE, t -> t.play(23, 0));
        refused("play, does not fit", RefusedTest::midRound, STATE, t -> t.play(22, 1));
    }

    private static HubTrains drewOnce() {
        HubTrains t = stuck();
        t.draw();
        return t;
    }

    private static HubTrains drewAPlay() {
        HubTrains t = played(TWO_DRAWS, 1, 3, 2, 1, 3, 2);
        t.draw();
        return t;
    }

    private static HubTrains playWithoutAStock() {
        HubTrains t = Checks.loaded(THREE);
        t.pass();
        return t;
    }

    private static void draw() {
        refused("draw, there is a play", RefusedTest::midRound, STATE, t -> t.draw());
        refused("draw, drew already", RefusedTest::drewOnce, STATE, t -> t.draw());
        refused("draw, drew already and can play", RefusedTest::drewAPlay, STATE, t -> t.draw());
        refused("draw, no stock", () -> Checks.loaded(THREE), STATE, t -> t.draw());
        refused("draw, the round is over", RefusedTest::over, STATE, t -> t.draw());
    }

    private static void pass() {
        refused("pass, there is a play", RefusedTest::midRound, STATE, t -> t.pass());
        refused("pass, there is a play and no stock", RefusedTest::playWithoutAStock, STATE, t -> t.pass());
        refused("pass, there is a play behind a draw", RefusedTest::drewAPlay, STATE, t -> t.pass());
        refused("pass, did not draw", Scenes::stuck, STATE, t -> t.pass());
        refused("pass, the round is over", RefusedTest::over, STATE, t -> t.pass());
    }

    private static void auto() {
        for (int steps : new int[] {MIN, -1, 0, 201, MAX}) {
            refused("auto(" + steps + ")", RefusedTest::midRound, ARGUMENT, t -> t.auto(steps));
            refused("auto(" + steps + "), over", RefusedTest::over, ARGUMENT, t -> t.auto(steps));
        }
    }

    private static void deal() {
        for (int hub : new int[] {MIN, -1, 4, MAX}) {
            refused("deal(" + hub + ", 1), not over", RefusedTest::midRound, ARGUMENT, t -> t.deal(hub, 1));
            refused("deal(" + hub + ", 1)", RefusedTest::over, ARGUMENT, t -> t.deal(hub, 1));
        }
        for (int seed : new int[] {MIN, -1, 10000, MAX}) {
            refused("deal(1, " + seed + "), not over", RefusedTest::midRound, ARGUMENT, t -> t.deal(1, seed));
            refused("deal(1, " + seed + ")", RefusedTest::over, ARGUMENT, t -> t.deal(1, seed));
        }
        refused("deal(0, 0), not over", RefusedTest::midRound, STATE, t -> t.deal(0, 0));
        refused("deal(3, 9999), not over", RefusedTest::midRound, STATE, t -> t.deal(3, 9999));
        checks.answers("deal(9, 9999) up to 9", STATE, () -> Checks.loaded("trains 9 2 1;").deal(9, 9999));
        checks.answers("deal(10, 9999) up to 9", ARGUMENT, () -> Checks.loaded("trains 9 2 1;").deal(10, 9999));
    }

    private static void inANewObject() {
        refused("player(2, 0)", HubTrains::new, INDEX, t -> t.player(2, 0));
        refused("train(3, 0)", HubTrains::new, INDEX, t -> t.train(3, 0));
        refused("laid(2, 0)", HubTrains::new, ELEMENT, t -> t.laid(2, 0));
        refused("tile(1, 1)", HubTrains::new, ELEMENT, t -> t.tile(1, 1));
        refused("why(4, 0)", HubTrains::new, ARGUMENT, t -> t.why(4, 0));
        refused("play(2, 0)", HubTrains::new, STATE, t -> t.play(2, 0));
        refused("pass()", HubTrains::new, STATE, t -> t.pass());
        refused("deal(4, 0)", HubTrains::new, ARGUMENT, t -> t.deal(4, 0));
        refused("deal(3, 0)", HubTrains::new, STATE, t -> t.deal(3, 0));
    }

    private static void withMorePlayers() {
        refused("player(3, 0) of 3", Scenes::stuck, INDEX, t -> t.player(3, 0));
        refused("train(4, 0) of 4", Scenes::stuck, INDEX, t -> t.train(4, 0));
        refused("player(4, 0) of 4", Scenes::fourStuck, INDEX, t -> t.player(4, 0));
        refused("train(5, 0) of 5", Scenes::fourStuck, INDEX, t -> t.train(5, 0));
        checks.answers("player(2, 0) of 3", 1, () -> stuck().player(2, 0));
        checks.answers("train(3, 0) of 4", 2, () -> stuck().train(3, 0));
        checks.answers("player(3, 0) of 4", 1, () -> fourStuck().player(3, 0));
        checks.answers("train(4, 0) of 5", 2, () -> fourStuck().train(4, 0));
    }

    /** Answers that tell that nothing was done. */
    private static void whatIsNoException() {
        HubTrains t = new HubTrains();
        String before = everything(new HubTrains(), new HubTrains());
        checks.same("no change to undo", t.undo() + " " + t.undo(), "-1 -1");
        checks.same("undo changes nothing then", everything(t, new HubTrains()), before);
        HubTrains full = new HubTrains();
        Checks.append(full, "trains 4 3 2; seed 5;" + " ".repeat(479));
        checks.same("no room", full.append(-1, -1, -1, -1, -1) + " " + full.append(0, 0, 0, 0, 0), "-1 -1");
        checks.same("append changes nothing then", full.load(500) + " " + full.errorOffset(), "8 -1");
    }
}
