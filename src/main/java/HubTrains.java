import java.util.Arrays;
import java.util.NoSuchElementException;

/** Dominoes on trains from a hub. The numbered promises of the document say what each call answers. */
public final class HubTrains {
    public static final int SYNTAX_ERROR = -2;
    public static final int OUT_OF_RANGE = -3;
    public static final int REPEATED = -4;
    public static final int TOO_MANY = -5;
    public static final int TOO_DEEP = -6;

    private static final int NONE = -1;
    private static final int CODES = 100;
    private static final int MOST_TILES = 55;
    private static final int MOST_PLAYERS = 4;
    private static final int MOST_TRAINS = 5;
    private static final int MOST_BYTES = 500;
    private static final int BYTES_PER_APPEND = 20;
    private static final int MOST_SEED = 9999;
    private static final int MOST_STEPS = 200;
    private static final int MOST_CHANGES = 8;
    private static final int MOST_IN_ROW = 12;
    private static final int HAND_TOO_LARGE = -2;
    /** Each tile is drawn and played at most once and all others can pass between, so no round comes near it. */
    private static final int MORE_STEPS_THAN_A_ROUND = 1000000;

    private static final int STATE_NUMBERS = 13;
    private static final int PLAYER_NUMBERS = 4;
    private static final int TRAIN_NUMBERS = 5;

    private final Game game = new Game();
    /** Here a round is played on when it is only foretold. */
    private final Game trial = new Game();
    private final Game[] past = new Game[MOST_CHANGES];
    private int latest;
    private int undoable;
    private final SetupReader reader = new SetupReader();
    private final RowSearch rows = new RowSearch();

    public HubTrains() {
        for (int k = 0; k < past.length; k++) {
            past[k] = new Game();
        }
        game.dealRound();
    }

    public int append(int w0, int w1, int w2, int w3, int w4) {
        Tokens input = reader.tokens;
        if (input.stored + BYTES_PER_APPEND > MOST_BYTES) {
            return -1;
        }
        input.store(w0);
        input.store(w1);
        input.store(w2);
        input.store(w3);
        input.store(w4);
        return input.stored;
    }

    public int load(int length) throws IllegalArgumentException {
        if (length < 0 || length > reader.tokens.stored) {
            throw new IllegalArgumentException();
        }
        int error = reader.read(length);
        if (error != 0) {
            return error;
        }
        remember();
        game.takeOver(reader.game);
        game.dealRound();
        return game.stock.size();
    }

    public int errorOffset() {
        return reader.errorOffset;
    }

    public int state(int what) throws IllegalArgumentException {
        checkWhat(what, STATE_NUMBERS);
        return game.stateNumber(what);
    }

    public int player(int player, int what) throws IndexOutOfBoundsException, IllegalArgumentException {
        checkPlayer(player);
        checkWhat(what, PLAYER_NUMBERS);
        return game.playerNumber(player, what);
    }

    public int tile(int player, int k) throws IndexOutOfBoundsException, NoSuchElementException {
        checkPlayer(player);
        int code = game.tileInHand(player, k);
        if (code == NONE) {
            throw new NoSuchElementException();
        }
        return code;
    }

    public int train(int train, int what) throws IndexOutOfBoundsException, IllegalArgumentException {
        checkTrain(train);
        checkWhat(what, TRAIN_NUMBERS);
        return game.trainNumber(train, what);
    }

    public int laid(int train, int k) throws IndexOutOfBoundsException, NoSuchElementException {
        checkTrain(train);
        int code = game.tracks.tileAt(train, k);
        if (code == NONE) {
            throw new NoSuchElementException();
        }
        return code;
    }

    public int why(int tile, int train) throws IndexOutOfBoundsException, IllegalArgumentException {
        checkTrain(train);
        checkTile(tile);
        return game.obstacle(tile, train);
    }

    public int best() {
        return game.bestPlay();
    }

    public int rank(int tile, int train)
            throws IndexOutOfBoundsException, IllegalArgumentException, NoSuchElementException {
        checkTrain(train);
        checkTile(tile);
        if (!game.canPlay(tile, train)) {
            throw new NoSuchElementException();
        }
        return game.rankOf(tile, train);
    }

    public int longest(int player) throws IndexOutOfBoundsException {
        checkPlayer(player);
        if (!exploreRows(player)) {
            return HAND_TOO_LARGE;
        }
        return rows.longestLength();
    }

    public int longestTile(int player, int k) throws IndexOutOfBoundsException, NoSuchElementException {
        checkPlayer(player);
        int code = exploreRows(player) ? rows.tileOfFirstLongest(k) : NONE;
        if (code == NONE) {
            throw new NoSuchElementException();
        }
        return code;
    }

    public int heaviest(int player) throws IndexOutOfBoundsException {
        checkPlayer(player);
        if (!exploreRows(player)) {
            return HAND_TOO_LARGE;
        }
        return rows.mostPips();
    }

    public int winner() {
        trial.takeOver(game);
        trial.playOn(MORE_STEPS_THAN_A_ROUND);
        return trial.lightestHand();
    }

    public int stepsToEnd() {
        trial.takeOver(game);
        return trial.playOn(MORE_STEPS_THAN_A_ROUND);
    }

    public double meanPips() {
        int pips = 0;
        int tiles = 0;
        for (int p = 0; p < game.players; p++) {
            pips += game.handPips(p);
            tiles += game.handCount(p);
        }
        return tiles == 0 ? 0.0 : (double) pips / (double) tiles;
    }

    public int play(int tile, int train)
            throws IndexOutOfBoundsException, IllegalArgumentException, IllegalStateException {
        checkTrain(train);
        checkTile(tile);
        checkAllowed(game.canPlay(tile, train));
        remember();
        game.layTile(tile, train);
        return game.tracks.endOf(train);
    }

    public int draw() throws IllegalStateException {
        checkAllowed(game.mayDraw());
        remember();
        return game.drawTile();
    }

    public int pass() throws IllegalStateException {
        checkAllowed(game.mayPass());
        remember();
        game.passTurn();
        return game.turn;
    }

    public int auto(int steps) throws IllegalArgumentException {
        if (steps < 1 || steps > MOST_STEPS) {
            throw new IllegalArgumentException();
        }
        remember();
        return game.playOn(steps);
    }

    public int deal(int hub, int seed) throws IllegalArgumentException, IllegalStateException {
        if (hub < 0 || hub > game.greatest || seed < 0 || seed > MOST_SEED) {
            throw new IllegalArgumentException();
        }
        checkAllowed(game.over);
        remember();
        game.hub = hub;
        game.seed = seed;
        game.clearHands();
        game.dealRound();
        return game.stock.size();
    }

    public int undo() {
        if (undoable == 0) {
            return -1;
        }
        Game earlier = past[latest & (MOST_CHANGES - 1)];
        if (earlier != null) {
            game.takeOver(earlier);
        }
        latest--;
        undoable--;
        return undoable;
    }

    public long checksum() {
        long sum = 0;
        for (int what = 0; what < STATE_NUMBERS; what++) {
            sum = 31 * sum + game.stateNumber(what);
        }
        for (int p = 0; p < game.players; p++) {
            for (int what = 0; what < PLAYER_NUMBERS; what++) {
                sum = 31 * sum + game.playerNumber(p, what);
            }
            for (int code = 0; code < CODES; code++) {
                if (game.holderOf(code) == p) {
                    sum = 31 * sum + code;
                }
            }
        }
        for (int t = 0; t <= game.players; t++) {
            for (int what = 0; what < TRAIN_NUMBERS; what++) {
                sum = 31 * sum + game.trainNumber(t, what);
            }
        }
        return sum;
    }

    /** The oldest change is final by being written over. */
    private void remember() {
        latest++;
        Game spare = past[latest & (MOST_CHANGES - 1)];
        if (spare != null) {
            spare.takeOver(game);
        }
        undoable = Math.min(undoable + 1, MOST_CHANGES);
    }

    private boolean exploreRows(int player) {
        if (game.handCount(player) > MOST_IN_ROW) {
            return false;
        }
        rows.explore(game, player);
        return true;
    }

    private void checkPlayer(int player) {
        if (player < 0 || player >= game.players) {
            throw new IndexOutOfBoundsException();
        }
    }

    private void checkTrain(int train) {
        if (train < 0 || train > game.players) {
            throw new IndexOutOfBoundsException();
        }
    }

    private void checkTile(int tile) {
        if (!game.isInSet(tile)) {
            throw new IllegalArgumentException();
        }
    }

    private static void checkWhat(int what, int numbers) {
        if (what < 0 || what >= numbers) {
            throw new IllegalArgumentException();
        }
    }

    private static void checkAllowed(boolean allowed) {
        if (!allowed) {
            throw new IllegalStateException();
        }
    }

    private static int lowNumber(int code) {
        return code / 10;
    }

    private static int highNumber(int code) {
        return code % 10;
    }

    private static boolean isDouble(int code) {
        return lowNumber(code) == highNumber(code);
    }

    private static int pipsOf(int code) {
        return lowNumber(code) + highNumber(code);
    }

    private static boolean hasNumber(int code, int number) {
        return lowNumber(code) == number || highNumber(code) == number;
    }

    private static int look(int[] row, int k) {
        return k >= 0 && k < row.length ? row[k] : 0;
    }

    private static void put(int[] row, int k, int value) {
        if (k >= 0 && k < row.length) {
            row[k] = value;
        }
    }

    private static void copy(int[] from, int[] to) {
        System.arraycopy(from, 0, to, 0, Math.min(from.length, to.length));
    }

    /** All that a change can change and an undo brings back. */
    private static final class Game {
        private int greatest = 3;
        private int players = 2;
        private int handSize = 1;
        private int hub = 3;
        private int seed = 1;
        private int turn;
        private boolean drew;
        private int uncovered = NONE;
        private boolean over;
        private int rounds;
        private int passes;
        /** Null as long as no rank statement told one. */
        private Formula formula;
        /** By the code of a tile: the player who has it in the hand, or NONE; so each hand is in order by itself. */
        private final int[] holders = new int[CODES];
        private final int[] totals = new int[MOST_PLAYERS];
        private final Stock stock = new Stock();
        private final Tracks tracks = new Tracks();

        Game() {
            Arrays.fill(holders, NONE);
        }

        void takeOver(Game other) {
            greatest = other.greatest;
            players = other.players;
            handSize = other.handSize;
            hub = other.hub;
            seed = other.seed;
            turn = other.turn;
            drew = other.drew;
            uncovered = other.uncovered;
            over = other.over;
            rounds = other.rounds;
            passes = other.passes;
            formula = other.formula;
            copy(other.holders, holders);
            copy(other.totals, totals);
            stock.takeOver(other.stock);
            tracks.takeOver(other.tracks);
        }

        void clearHands() {
            Arrays.fill(holders, NONE);
        }

        /** Deals by the hub and the seed; what is in a hand already was given. */
        void dealRound() {
            stock.clear();
            for (int code = 0; code < CODES; code++) {
                if (isInSet(code) && isFree(code)) {
                    stock.add(code);
                }
            }
            seed = stock.mix(seed);
            for (int p = 0; p < players; p++) {
                fillHand(p);
            }
            tracks.begin(hub);
            turn = 0;
            drew = false;
            uncovered = NONE;
            over = false;
            passes = 0;
        }

        private void fillHand(int player) {
            for (int count = handCount(player); count < handSize && stock.size() > 0; count++) {
                put(holders, stock.takeFirst(), player);
            }
        }

        boolean isInSet(int code) {
            return code >= 0 && code < CODES
                    && lowNumber(code) <= highNumber(code) && highNumber(code) <= greatest;
        }

        /** Neither in a hand nor the double in the middle. */
        boolean isFree(int code) {
            return holderOf(code) == NONE && !(isDouble(code) && lowNumber(code) == hub);
        }

        int holderOf(int code) {
            return code >= 0 && code < holders.length ? holders[code] : NONE;
        }

        int handCount(int player) {
            int count = 0;
            for (int code = 0; code < CODES; code++) {
                if (holderOf(code) == player) {
                    count++;
                }
            }
            return count;
        }

        int handPips(int player) {
            int pips = 0;
            for (int code = 0; code < CODES; code++) {
                if (holderOf(code) == player) {
                    pips += pipsOf(code);
                }
            }
            return pips;
        }

        /** NONE if the hand has no k-th tile. */
        int tileInHand(int player, int k) {
            int place = 0;
            for (int code = 0; code < CODES; code++) {
                if (holderOf(code) == player) {
                    if (place == k) {
                        return code;
                    }
                    place++;
                }
            }
            return NONE;
        }

        /** 0 if the player on turn can play the tile there, otherwise the first reason why not. */
        int obstacle(int tile, int train) {
            if (over) {
                return 1;
            }
            if (holderOf(tile) != turn) {
                return 2;
            }
            if (uncovered != NONE && uncovered != train) {
                return 3;
            }
            if (uncovered == NONE && train != turn && !isOpen(train)) {
                return 4;
            }
            return hasNumber(tile, tracks.endOf(train)) ? 0 : 5;
        }

        boolean canPlay(int tile, int train) {
            return obstacle(tile, train) == 0;
        }

        private boolean isOpen(int train) {
            return train == players || tracks.isOpen(train);
        }

        /** On how many trains the tile can be played now. */
        private int playsOf(int tile) {
            int plays = 0;
            for (int train = 0; train <= players; train++) {
                if (obstacle(tile, train) == 0) {
                    plays++;
                }
            }
            return plays;
        }

        private int playsNow() {
            int plays = 0;
            for (int code = 0; code < CODES; code++) {
                if (holderOf(code) == turn) {
                    plays += playsOf(code);
                }
            }
            return plays;
        }

        private int playableTiles(int player) {
            int tiles = 0;
            for (int code = 0; code < CODES; code++) {
                if (player == turn && holderOf(code) == player && playsOf(code) > 0) {
                    tiles++;
                }
            }
            return tiles;
        }

        int rankOf(int tile, int train) {
            Formula told = formula;
            if (told == null) {
                return pipsOf(tile);
            }
            int left = handCount(turn) - 1;
            return told.value(pipsOf(tile), isDouble(tile), train == turn, train == players, left);
        }

        /** 10 * tile + train; tiles and trains come in order, so only a greater rank takes the place of the first. */
        int bestPlay() {
            int bestSoFar = NONE;
            int greatestRank = 0;
            for (int code = 0; code < CODES; code++) {
                if (holderOf(code) != turn) {
                    continue;
                }
                for (int train = 0; train <= players; train++) {
                    if (obstacle(code, train) == 0) {
                        int itsRank = rankOf(code, train);
                        if (bestSoFar == NONE || itsRank > greatestRank) {
                            bestSoFar = 10 * code + train;
                            greatestRank = itsRank;
                        }
                    }
                }
            }
            return bestSoFar;
        }

        void layTile(int tile, int train) {
            put(holders, tile, NONE);
            tracks.lay(tile, train);
            if (train == turn) {
                tracks.setOpen(train, false);
            }
            uncovered = isDouble(tile) ? train : NONE;
            passes = 0;
            if (handCount(turn) == 0) {
                endRound();
            } else if (isDouble(tile)) {
                drew = false;
            } else {
                nextTurn();
            }
        }

        boolean mayDraw() {
            return !over && !drew && stock.size() > 0 && playsNow() == 0;
        }

        boolean mayPass() {
            return !over && (drew || stock.size() == 0) && playsNow() == 0;
        }

        int drawTile() {
            int code = stock.takeFirst();
            put(holders, code, turn);
            drew = true;
            passes = 0;
            return code;
        }

        void passTurn() {
            tracks.setOpen(turn, true);
            passes++;
            if (passes >= players) {
                endRound();
            } else {
                nextTurn();
            }
        }

        private void nextTurn() {
            turn = turn + 1 < players ? turn + 1 : 0;
            drew = false;
        }

        /** The turn and its draw stay, as they are still asked for. */
        private void endRound() {
            over = true;
            rounds++;
            for (int p = 0; p < players; p++) {
                put(totals, p, look(totals, p) + handPips(p));
            }
        }

        /** Makes steps by rank; returns how many. */
        int playOn(int most) {
            int made = 0;
            while (made < most && !over) {
                makeStep();
                made++;
            }
            return made;
        }

        private void makeStep() {
            int chosen = bestPlay();
            if (chosen != NONE) {
                layTile(chosen / 10, chosen % 10);
            } else if (!drew && stock.size() > 0) {
                drawTile();
            } else {
                passTurn();
            }
        }

        int lightestHand() {
            int lightest = 0;
            for (int p = 1; p < players; p++) {
                if (handPips(p) < handPips(lightest)) {
                    lightest = p;
                }
            }
            return lightest;
        }

        int stateNumber(int what) {
            switch (what) {
                case 0: return greatest;
                case 1: return players;
                case 2: return handSize;
                case 3: return hub;
                case 4: return turn;
                case 5: return drew ? 1 : 0;
                case 6: return uncovered;
                case 7: return stock.size();
                case 8: return over ? 1 : 0;
                case 9: return rounds;
                case 10: return playsNow();
                case 11: return passes;
                default: return seed;
            }
        }

        int playerNumber(int player, int what) {
            switch (what) {
                case 0: return handCount(player);
                case 1: return handPips(player);
                case 2: return look(totals, player);
                default: return playableTiles(player);
            }
        }

        int trainNumber(int train, int what) {
            switch (what) {
                case 0: return tracks.countOf(train);
                case 1: return tracks.endOf(train);
                case 2: return isOpen(train) ? 1 : 0;
                case 3: return tracks.tileAt(train, tracks.countOf(train) - 1);
                default: return tracks.pipsOn(train);
            }
        }
    }

    /** The tiles that wait to be drawn. */
    private static final class Stock {
        private final int[] tiles = new int[MOST_TILES];
        private int first;
        private int end;

        void takeOver(Stock other) {
            copy(other.tiles, tiles);
            first = other.first;
            end = other.end;
        }

        void clear() {
            first = 0;
            end = 0;
        }

        int size() {
            return end - first;
        }

        void add(int code) {
            if (end < tiles.length) {
                put(tiles, end, code);
                end++;
            }
        }

        /** Returns what becomes of the seed. */
        int mix(int seed) {
            int mixed = seed;
            for (int k = end - 1; k >= 1; k--) {
                mixed = mixed * 1103515245 + 12345;
                int other = ((mixed >> 16) & 32767) % (k + 1);
                int moved = look(tiles, k);
                put(tiles, k, look(tiles, other));
                put(tiles, other, moved);
            }
            return mixed;
        }

        /** NONE if there is no tile any more. */
        int takeFirst() {
            if (first >= end) {
                return NONE;
            }
            int code = look(tiles, first);
            first++;
            return code;
        }
    }

    /** The tiles on all trains, in the order in which they were played. */
    private static final class Tracks {
        private final int[] tiles = new int[MOST_TILES];
        private final int[] trains = new int[MOST_TILES];
        private int count;
        private final int[] ends = new int[MOST_TRAINS];
        private final int[] open = new int[MOST_TRAINS];

        void takeOver(Tracks other) {
            copy(other.tiles, tiles);
            copy(other.trains, trains);
            count = other.count;
            copy(other.ends, ends);
            copy(other.open, open);
        }

        void begin(int hub) {
            count = 0;
            Arrays.fill(ends, hub);
            Arrays.fill(open, 0);
        }

        void lay(int tile, int train) {
            if (count < tiles.length) {
                put(tiles, count, tile);
                put(trains, count, train);
                count++;
                put(ends, train, pipsOf(tile) - endOf(train));
            }
        }

        int endOf(int train) {
            return look(ends, train);
        }

        boolean isOpen(int train) {
            return look(open, train) == 1;
        }

        void setOpen(int train, boolean now) {
            put(open, train, now ? 1 : 0);
        }

        int countOf(int train) {
            int found = 0;
            for (int k = 0; k < count; k++) {
                if (look(trains, k) == train) {
                    found++;
                }
            }
            return found;
        }

        int pipsOn(int train) {
            int pips = 0;
            for (int k = 0; k < count; k++) {
                if (look(trains, k) == train) {
                    pips += pipsOf(look(tiles, k));
                }
            }
            return pips;
        }

        /** NONE if the train has no such place. */
        int tileAt(int train, int place) {
            int found = 0;
            for (int k = 0; k < count; k++) {
                if (look(trains, k) == train) {
                    if (found == place) {
                        return look(tiles, k);
                    }
                    found++;
                }
            }
            return NONE;
        }
    }

    /** The expression of a rank statement, each operation behind its operands; games share it, as its steps stay. */
    private static final class Formula {
        private static final int PIPS = -1;
        private static final int DOUBLE = -2;
        private static final int OWN = -3;
        private static final int PUBLIC = -4;
        private static final int LEFT = -5;
        private static final int PLUS = -6;
        private static final int MINUS = -7;
        private static final int TIMES = -8;
        private static final int DIVIDE = -9;
        private static final int LIMIT = 1000000;
        /** Each parenthesis leaves at most a sum and a term waiting, and there are 4 of them. */
        private static final int MOST_WAITING = 16;

        /** A step that is not negative is a number. */
        private final int[] steps;
        private final int[] waiting = new int[MOST_WAITING];

        Formula(int[] from, int count) {
            steps = Arrays.copyOf(from, Math.max(0, Math.min(count, from.length)));
        }

        int value(int pips, boolean isDouble, boolean own, boolean isPublic, int left) {
            int top = 0;
            for (int k = 0; k < steps.length; k++) {
                int step = steps[k];
                if (step <= PLUS) {
                    top--;
                    put(waiting, top - 1, result(step, look(waiting, top - 1), look(waiting, top)));
                } else {
                    put(waiting, top, operand(step, pips, isDouble, own, isPublic, left));
                    top++;
                }
            }
            return look(waiting, 0);
        }

        private static int operand(int step, int pips, boolean isDouble, boolean own, boolean isPublic, int left) {
            switch (step) {
                case PIPS: return pips;
                case DOUBLE: return isDouble ? 1 : 0;
                case OWN: return own ? 1 : 0;
                case PUBLIC: return isPublic ? 1 : 0;
                case LEFT: return left;
                default: return step;
            }
        }

        private static int result(int operation, long a, long b) {
            long exact;
            switch (operation) {
                case PLUS: exact = a + b; break;
                case MINUS: exact = a - b; break;
                case TIMES: exact = a * b; break;
                default: exact = b == 0 ? 0 : a / b; break;
            }
            return (int) Math.max(-LIMIT, Math.min(LIMIT, exact));
        }
    }

    /** The input buffer, and the token that is looked at in the text that is read from it. */
    private static final class Tokens {
        private static final int END = 0;
        private static final int NUMBER = 1;
        private static final int WORD = 2;
        private static final int SIGN = 3;
        private static final int ABOVE_ALL_RANGES = 1000000;

        private final int[] bytes = new int[MOST_BYTES];
        private int stored;
        private int length;
        private int kind;
        private int start;
        private int end;
        /** That of a token of kind NUMBER; one above all ranges stands for each greater one too. */
        private int number;

        void store(int word) {
            for (int shift = 24; shift >= 0 && stored < bytes.length; shift -= 8) {
                put(bytes, stored, (word >>> shift) & 255);
                stored++;
            }
        }

        void begin(int textLength) {
            length = Math.max(0, Math.min(textLength, bytes.length));
            end = 0;
            advance();
        }

        /** Behind the last token stands one of kind END, at the length of the text. */
        void advance() {
            int stop = length < bytes.length ? length : bytes.length;
            start = end;
            while (start >= 0 && start < stop && bytes[start] == ' ') {
                start++;
            }
            end = start;
            number = 0;
            while (end >= 0 && end < stop && bytes[end] >= '0' && bytes[end] <= '9') {
                number = number < ABOVE_ALL_RANGES ? 10 * number + bytes[end] - '0' : number;
                end++;
            }
            if (end > start) {
                kind = NUMBER;
                return;
            }
            while (end >= 0 && end < stop && bytes[end] >= 'a' && bytes[end] <= 'z') {
                end++;
            }
            if (end > start) {
                kind = WORD;
                return;
            }
            kind = start < stop ? SIGN : END;
            end = start < stop ? start + 1 : stop;
        }

        boolean isNumber() {
            return kind == NUMBER;
        }

        boolean isWord(String word) {
            if (kind != WORD || end - start != word.length()) {
                return false;
            }
            boolean same = true;
            for (int k = 0; k < word.length(); k++) {
                int at = start + k;
                same = same && at >= 0 && at < bytes.length && bytes[at] == word.charAt(k);
            }
            return same;
        }

        boolean isSign(char sign) {
            return kind == SIGN && start >= 0 && start < bytes.length && bytes[start] == sign;
        }
    }

    /** Reads a setup text into a game of its own; each method that reads returns false at the first error. */
    private static final class SetupReader {
        private static final int MOST_PARENTHESES = 4;
        private static final int MOST_FACTOR = 9999;

        private final Tokens tokens = new Tokens();
        private final Game game = new Game();
        private int number;
        private boolean hubTold;
        private boolean seedTold;
        private boolean rankTold;
        private boolean tilesGiven;
        private final int[] steps = new int[MOST_BYTES];
        private int stepCount;
        private int error;
        private int errorOffset = NONE;

        /** Returns the code of the first error, or 0; the input buffer is empty then. */
        int read(int length) {
            game.clearHands();
            game.formula = null;
            hubTold = false;
            seedTold = false;
            rankTold = false;
            stepCount = 0;
            tilesGiven = false;
            error = 0;
            errorOffset = NONE;
            tokens.begin(length);
            boolean fine = readHead();
            for (int more = 0; fine && tokens.kind != Tokens.END && more < MOST_BYTES; more++) {
                fine = readStatement() && takeSign(';');
            }
            if (fine && rankTold) {
                game.formula = new Formula(steps, stepCount);
            }
            tokens.stored = 0;
            return error;
        }

        private boolean readHead() {
            if (!tokens.isWord("trains")) {
                return fail(SYNTAX_ERROR, tokens.start);
            }
            tokens.advance();
            if (!takeNumber(3, 9)) {
                return false;
            }
            game.greatest = number;
            game.hub = number;
            game.seed = 1;
            if (!takeNumber(2, MOST_PLAYERS)) {
                return false;
            }
            game.players = number;
            if (!takeNumber(1, MOST_IN_ROW)) {
                return false;
            }
            game.handSize = number;
            return takeSign(';');
        }

        private boolean readStatement() {
            if (tokens.isWord("hub") && !hubTold && !tilesGiven) {
                return readHub();
            }
            if (tokens.isWord("seed") && !seedTold) {
                return readSeed();
            }
            if (tokens.isWord("give")) {
                return readGive();
            }
            if (tokens.isWord("rank") && !rankTold) {
                rankTold = true;
                tokens.advance();
                return readSum(0);
            }
            return fail(SYNTAX_ERROR, tokens.start);
        }

        private boolean readHub() {
            hubTold = true;
            tokens.advance();
            if (!takeNumber(0, game.greatest)) {
                return false;
            }
            game.hub = number;
            return true;
        }

        private boolean readSeed() {
            seedTold = true;
            tokens.advance();
            if (!takeNumber(0, MOST_SEED)) {
                return false;
            }
            game.seed = number;
            return true;
        }

        private boolean readGive() {
            tilesGiven = true;
            tokens.advance();
            if (!takeNumber(0, game.players - 1)) {
                return false;
            }
            int player = number;
            boolean fine = readTile(player);
            for (int more = 0; fine && tokens.isNumber() && more < MOST_BYTES; more++) {
                fine = readTile(player);
            }
            return fine;
        }

        private boolean readTile(int player) {
            int offset = tokens.start;
            if (!takeNumber(0, game.greatest)) {
                return false;
            }
            int one = number;
            if (!takeSign('-') || !takeNumber(0, game.greatest)) {
                return false;
            }
            int code = 10 * Math.min(one, number) + Math.max(one, number);
            if (!game.isFree(code)) {
                return fail(REPEATED, offset);
            }
            if (game.handCount(player) >= game.handSize) {
                return fail(TOO_MANY, offset);
            }
            put(game.holders, code, player);
            return true;
        }

        private boolean readSum(int depth) {
            boolean fine = readTerm(depth);
            for (int more = 0; fine && (tokens.isSign('+') || tokens.isSign('-')) && more < MOST_BYTES; more++) {
                int operation = tokens.isSign('+') ? Formula.PLUS : Formula.MINUS;
                tokens.advance();
                fine = readTerm(depth);
                addStep(operation);
            }
            return fine;
        }

        private boolean readTerm(int depth) {
            boolean fine = readFactor(depth);
            for (int more = 0; fine && (tokens.isSign('*') || tokens.isSign('/')) && more < MOST_BYTES; more++) {
                int operation = tokens.isSign('*') ? Formula.TIMES : Formula.DIVIDE;
                tokens.advance();
                fine = readFactor(depth);
                addStep(operation);
            }
            return fine;
        }

        /** The depth is how many parentheses are open round the factor. */
        private boolean readFactor(int depth) {
            if (tokens.isSign('(')) {
                if (depth >= MOST_PARENTHESES) {
                    return fail(TOO_DEEP, tokens.start);
                }
                tokens.advance();
                return readSum(depth + 1) && takeSign(')');
            }
            if (tokens.isNumber()) {
                if (!takeNumber(0, MOST_FACTOR)) {
                    return false;
                }
                addStep(number);
                return true;
            }
            int variable = variableHere();
            if (variable == 0) {
                return fail(SYNTAX_ERROR, tokens.start);
            }
            tokens.advance();
            addStep(variable);
            return true;
        }

        /** 0 if no word of a factor stands here. */
        private int variableHere() {
            if (tokens.isWord("pips")) {
                return Formula.PIPS;
            }
            if (tokens.isWord("double")) {
                return Formula.DOUBLE;
            }
            if (tokens.isWord("own")) {
                return Formula.OWN;
            }
            if (tokens.isWord("public")) {
                return Formula.PUBLIC;
            }
            return tokens.isWord("left") ? Formula.LEFT : 0;
        }

        private void addStep(int step) {
            if (stepCount < steps.length) {
                put(steps, stepCount, step);
                stepCount++;
            }
        }

        private boolean takeNumber(int least, int most) {
            if (!tokens.isNumber()) {
                return fail(SYNTAX_ERROR, tokens.start);
            }
            number = tokens.number;
            if (number < least || number > most) {
                return fail(OUT_OF_RANGE, tokens.start);
            }
            tokens.advance();
            return true;
        }

        private boolean takeSign(char sign) {
            if (!tokens.isSign(sign)) {
                return fail(SYNTAX_ERROR, tokens.start);
            }
            tokens.advance();
            return true;
        }

        private boolean fail(int code, int offset) {
            error = code;
            errorOffset = offset;
            return false;
        }
    }

    /**
     * Rows of a hand's tiles, from an end on. A mask has bit i for the i-th tile of the hand, a set of ends has bit n
     * for the number n: rows of the same tiles with the same end go on alike, so each such pair is looked at once.
     */
    private static final class RowSearch {
        private static final int MASKS = 1 << MOST_IN_ROW;

        private final int[] tiles = new int[MOST_IN_ROW];
        private int size;
        private int start;
        /** The masks that rows have, those of fewer tiles first. */
        private final int[] masks = new int[MASKS];
        private int found;
        /** By the mask: the ends of its rows. */
        private final int[] ends = new int[MASKS];
        /** By the mask: those of its ends from which a row can still become one of the longest. */
        private final int[] hopeful = new int[MASKS];

        void explore(Game game, int player) {
            forget();
            for (int code = 0; code < CODES && size < MOST_IN_ROW; code++) {
                if (game.holderOf(code) == player) {
                    put(tiles, size, code);
                    size++;
                }
            }
            start = game.tracks.endOf(player);
            reach(0, 1 << start);
            for (int k = 0; k < found && k < MASKS; k++) {
                extend(look(masks, k));
            }
        }

        /** Clears only what the last search has filled. */
        private void forget() {
            for (int k = 0; k < found && k < MASKS; k++) {
                put(ends, look(masks, k), 0);
                put(hopeful, look(masks, k), 0);
            }
            found = 0;
            size = 0;
        }

        private void reach(int mask, int newEnds) {
            int before = look(ends, mask);
            if (before == 0 && found < MASKS) {
                put(masks, found, mask);
                found++;
            }
            put(ends, mask, before | newEnds);
        }

        private void extend(int mask) {
            for (int i = 0; i < size; i++) {
                int bit = 1 << i;
                int behind = acrossTile(look(tiles, i), look(ends, mask));
                if ((mask & bit) == 0 && behind != 0) {
                    reach(mask | bit, behind);
                }
            }
        }

        /** The numbers on the other side of the tile, laid to one of these numbers. */
        private static int acrossTile(int tile, int numbers) {
            int across = 0;
            if ((numbers & (1 << lowNumber(tile))) != 0) {
                across |= 1 << highNumber(tile);
            }
            if ((numbers & (1 << highNumber(tile))) != 0) {
                across |= 1 << lowNumber(tile);
            }
            return across;
        }

        int longestLength() {
            return Integer.bitCount(look(masks, found - 1));
        }

        int mostPips() {
            int most = 0;
            for (int k = 0; k < found; k++) {
                most = Math.max(most, pipsOfMask(look(masks, k)));
            }
            return most;
        }

        private int pipsOfMask(int mask) {
            int pips = 0;
            for (int i = 0; i < size; i++) {
                if ((mask & (1 << i)) != 0) {
                    pips += pipsOf(look(tiles, i));
                }
            }
            return pips;
        }

        /** NONE if the row has no k-th tile. */
        int tileOfFirstLongest(int k) {
            int length = longestLength();
            if (k < 0 || k >= length) {
                return NONE;
            }
            findHopeful(length);
            int mask = 0;
            int end = start;
            int tile = NONE;
            for (int place = 0; place <= k && place < length; place++) {
                int i = firstHopefulTile(mask, end);
                tile = look(tiles, i);
                mask |= 1 << i;
                end = pipsOf(tile) - end;
            }
            return tile;
        }

        private void findHopeful(int length) {
            for (int k = found - 1; k >= 0; k--) {
                int mask = look(masks, k);
                int hope = Integer.bitCount(mask) == length ? look(ends, mask) : hopeOf(mask);
                put(hopeful, mask, hope);
            }
        }

        private int hopeOf(int mask) {
            int hope = 0;
            for (int i = 0; i < size; i++) {
                if ((mask & (1 << i)) == 0) {
                    hope |= acrossTile(look(tiles, i), look(hopeful, mask | (1 << i)));
                }
            }
            return hope & look(ends, mask);
        }

        private int firstHopefulTile(int mask, int end) {
            for (int i = 0; i < size; i++) {
                int behind = acrossTile(look(tiles, i), 1 << end);
                if ((mask & (1 << i)) == 0 && (behind & look(hopeful, mask | (1 << i))) != 0) {
                    return i;
                }
            }
            return 0;
        }
    }
}
