/** Setups that several tests begin with, and what an object tells, as texts. */
class Scenes {
    static final String INDEX = "throws.IndexOutOfBoundsException";
    static final String ARGUMENT = "throws.IllegalArgumentException";
    static final String STATE = "throws.IllegalStateException";
    static final String ELEMENT = "throws.NoSuchElementException";
    static final int MIN = Integer.MIN_VALUE;
    static final int MAX = Integer.MAX_VALUE;

    /** Hub 3; player 0 has 01 03 11 22, player 1 has 00 12 13 23; the stock is 02. */
    static final String ROWS = "trains 3 2 4; give 0 0-3 1-0 1-1 2-2; give 1 0-0 3-1 1-2 2-3;";
    /** Hub 3; player 0 has 00 02 11 13, player 1 has 03 12 22 23; the stock is 01. */
    static final String DOUBLES = "trains 3 2 4; give 0 1-3 1-1 0-0 0-2; give 1 0-3 2-3 2-2 1-2;";
    /** Hub 0; player 0 has 12 22 33, player 1 has 01 11 13, player 2 has 02 03 23; there is no stock. */
    static final String THREE =
            "trains 3 3 3; hub 0; give 0 1-2 2-2 3-3; give 1 0-1 1-1 1-3; give 2 0-2 0-3 2-3;";

    /** Hub 4; 11 tiles of player 0, in a row that comes back to the hub, and one more to be told. */
    static final String TWELVE =
            "trains 4 2 12; hub 4; give 0 0-0 1-1 2-2 3-3 0-1 1-2 0-3 0-2 1-3 0-4 1-4 ";

    /**
     * Hub 0, the stock is 11 and then 04. Behind 01 on the public train, 02 and 03 on own ones, player 0 has 22 33 44
     * and draws 11; only player 1 can cover it.
     */
    static final String TWO_DRAWS = "trains 4 3 4; hub 0; give 0 0-1 2-2 3-3 4-4; give 1 0-2 1-2 1-3 1-4;"
            + "give 2 0-3 2-3 2-4 3-4; seed 1;";
    /** Hub 0, the stock is 44 and then 33. */
    static final String STUCK = "trains 4 3 4; hub 0; give 0 0-1 0-3 3-4 2-2; give 1 0-2 1-2 1-3 2-3;"
            + "give 2 0-4 1-4 1-1 2-4; seed 1;";
    /** Hub 0, the stock is 44 and then 11. */
    static final String FOUR = "trains 4 4 3; hub 0; give 0 0-1 2-2 2-3; give 1 0-2 1-2 2-4; give 2 0-4 1-4 3-3;"
            + "give 3 0-3 1-3 3-4; seed 1;";

    static String states(HubTrains t) {
        StringBuilder all = new StringBuilder();
        for (int what = 0; what <= 12; what++) {
            all.append(what == 0 ? "" : " ").append(t.state(what));
        }
        return all.toString();
    }

    static String hand(HubTrains t, int player) {
        StringBuilder all = new StringBuilder();
        for (int k = 0; k < t.player(player, 0); k++) {
            all.append(k == 0 ? "" : " ").append(t.tile(player, k));
        }
        return all.toString();
    }

    static String row(HubTrains t, int player) {
        StringBuilder all = new StringBuilder();
        for (int k = 0; k < t.longest(player); k++) {
            all.append(k == 0 ? "" : " ").append(t.longestTile(player, k));
        }
        return all.toString();
    }

    static String trainNumbers(HubTrains t, int train) {
        StringBuilder all = new StringBuilder();
        for (int what = 0; what <= 4; what++) {
            all.append(what == 0 ? "" : " ").append(t.train(train, what));
        }
        return all.toString();
    }

    /** The tiles and trains of plays, one behind the other. */
    static HubTrains played(String setup, int... plays) {
        HubTrains t = Checks.loaded(setup);
        for (int k = 0; k + 1 < plays.length; k += 2) {
            t.play(plays[k], plays[k + 1]);
        }
        return t;
    }

    /** Player 2 is on turn behind 11, which lies uncovered on the public train; no tile is left to cover it. */
    static HubTrains stuck() {
        return played(STUCK, 1, 3, 2, 1, 4, 2, 3, 0, 12, 1, 14, 2, 34, 0, 13, 1, 11, 3);
    }

    /** Player 0 is on turn behind 11, which lies uncovered on the public train; the stock is empty. */
    static HubTrains fourStuck() {
        HubTrains t = played(FOUR, 1, 4, 2, 1, 4, 2, 3, 3);
        t.draw();
        t.pass();
        t.play(12, 1);
        t.play(14, 2);
        t.play(13, 3);
        t.draw();
        t.play(11, 4);
        return t;
    }

    /** Player 0 has all 9 tiles of a set up to 3 and plays some on its own train; player 1, who has none, passes. */
    static HubTrains alone(int... tiles) {
        HubTrains t = Checks.loaded("trains 3 2 9;");
        for (int tile : tiles) {
            t.play(tile, 0);
            if (t.state(4) == 1) {
                t.pass();
            }
        }
        return t;
    }

    /** Player 0 has played its only tile, so the round is over; player 1 has 23, which counts 5. */
    static HubTrains roundOver() {
        return played("trains 3 2 1; give 0 0-3; give 1 2-3;", 3, 0);
    }

    /** A hand grows above 12 by draws. */
    static HubTrains largeHand() {
        HubTrains t = Checks.loaded("trains 9 2 12; hub 0; give 0 1-1 2-2 3-3 4-4 5-5 6-6 7-7 8-8 9-9 8-9 7-9 6-9;"
                + "give 1 1-2 1-3 1-4 1-5 1-6 1-7 1-8 1-9 2-3 2-4 2-5 2-6;");
        t.draw();
        return t;
    }
}
