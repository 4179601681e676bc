import java.util.ArrayDeque;
import java.util.ArrayList;
import java.util.Deque;
import java.util.List;
import java.util.NoSuchElementException;
import java.util.TreeSet;

/**
 * The document once more, for comparison: with lists instead of tables, with rows that are tried one by one instead of
 * by masks, and with expressions that are functions.
 */
final class Model {
    interface Expression {
        long of(long pips, long isDouble, long own, long isPublic, long left);
    }

    private static final class Bad extends RuntimeException {
        private static final long serialVersionUID = 1;
        final int code;
        final int offset;

        Bad(int code, int offset) {
            this.code = code;
            this.offset = offset;
        }
    }

    private static final class Data {
        int greatest = 3;
        int players = 2;
        int handSize = 1;
        int hub = 3;
        int seed = 1;
        int turn;
        int drew;
        int uncovered;
        int over;
        int rounds;
        int passes;
        Expression expression;
        List<Integer> totals = new ArrayList<>();
        List<TreeSet<Integer>> hands = new ArrayList<>();
        List<List<Integer>> trains = new ArrayList<>();
        List<Boolean> open = new ArrayList<>();
        List<Integer> stock = new ArrayList<>();

        Data copy() {
            Data c = new Data();
            c.greatest = greatest;
            c.players = players;
            c.handSize = handSize;
            c.hub = hub;
            c.seed = seed;
            c.turn = turn;
            c.drew = drew;
            c.uncovered = uncovered;
            c.over = over;
            c.rounds = rounds;
            c.passes = passes;
            c.expression = expression;
            c.totals.addAll(totals);
            hands.forEach(hand -> c.hands.add(new TreeSet<>(hand)));
            trains.forEach(train -> c.trains.add(new ArrayList<>(train)));
            c.open.addAll(open);
            c.stock.addAll(stock);
            return c;
        }
    }

    private Data d = new Data();
    private final Deque<Data> changes = new ArrayDeque<>();
    private final List<Integer> buffer = new ArrayList<>();
    private int errorOffset = -1;

    Model() {
        d.totals.addAll(List.of(0, 0));
        dealRound(List.of(new TreeSet<>(), new TreeSet<>()));
    }

    private void dealRound(List<TreeSet<Integer>> given) {
        d.hands.clear();
        d.stock.clear();
        for (int a = 0; a <= d.greatest; a++) {
            for (int b = a; b <= d.greatest; b++) {
                int code = 10 * a + b;
                boolean isGiven = given.stream().anyMatch(hand -> hand.contains(code));
                if (!isGiven && code != 11 * d.hub) {
                    d.stock.add(code);
                }
            }
        }
        for (int k = d.stock.size() - 1; k >= 1; k--) {
            d.seed = d.seed * 1103515245 + 12345;
            int j = (int) ((d.seed & 0x7fffffffL) / 65536 % (k + 1));
            int atK = d.stock.get(k);
            d.stock.set(k, d.stock.get(j));
            d.stock.set(j, atK);
        }
        for (int p = 0; p < d.players; p++) {
            TreeSet<Integer> hand = new TreeSet<>(given.get(p));
            while (hand.size() < d.handSize && !d.stock.isEmpty()) {
                hand.add(d.stock.remove(0));
            }
            d.hands.add(hand);
        }
        d.trains.clear();
        d.open.clear();
        for (int t = 0; t <= d.players; t++) {
            d.trains.add(new ArrayList<>());
            d.open.add(t == d.players);
        }
        d.turn = 0;
        d.drew = 0;
        d.uncovered = -1;
        d.over = 0;
        d.passes = 0;
    }

    private static int pips(int code) {
        return code / 10 + code % 10;
    }

    private static int pips(Iterable<Integer> codes) {
        int sum = 0;
        for (int code : codes) {
            sum += pips(code);
        }
        return sum;
    }

    private int end(int train) {
        int end = d.hub;
        for (int code : d.trains.get(train)) {
            end = code / 10 == end ? code % 10 : code / 10;
        }
        return end;
    }

    int append(int... words) {
        if (buffer.size() + 20 > 500) {
            return -1;
        }
        for (int w : words) {
            for (int k = 3; k >= 0; k--) {
                buffer.add(w >> 8 * k & 0xff);
            }
        }
        return buffer.size();
    }

    int load(int length) {
        if (length < 0 || length > buffer.size()) {
            throw new IllegalArgumentException();
        }
        List<Integer> text = new ArrayList<>(buffer.subList(0, length));
        buffer.clear();
        try {
            new Parser(text).setup();
            errorOffset = -1;
            return d.stock.size();
        } catch (Bad bad) {
            errorOffset = bad.offset;
            return bad.code;
        }
    }

    int errorOffset() {
        return errorOffset;
    }

    private void change() {
        changes.addLast(d.copy());
        if (changes.size() > 8) {
            changes.removeFirst();
        }
    }

    private List<int[]> plays() {
        List<int[]> plays = new ArrayList<>();
        for (int tile : d.hands.get(d.turn)) {
            for (int train = 0; train <= d.players; train++) {
                if (reason(tile, train) == 0) {
                    plays.add(new int[] {tile, train});
                }
            }
        }
        return plays;
    }

    private int reason(int tile, int train) {
        if (d.over == 1) {
            return 1;
        }
        if (!d.hands.get(d.turn).contains(tile)) {
            return 2;
        }
        if (d.uncovered >= 0) {
            if (d.uncovered != train) {
                return 3;
            }
        } else if (train != d.turn && !d.open.get(train)) {
            return 4;
        }
        int end = end(train);
        return tile / 10 == end || tile % 10 == end ? 0 : 5;
    }

    int state(int what) {
        return switch (what) {
            case 0 -> d.greatest;
            case 1 -> d.players;
            case 2 -> d.handSize;
            case 3 -> d.hub;
            case 4 -> d.turn;
            case 5 -> d.drew;
            case 6 -> d.uncovered;
            case 7 -> d.stock.size();
            case 8 -> d.over;
            case 9 -> d.rounds;
            case 10 -> plays().size();
            case 11 -> d.passes;
            case 12 -> d.seed;
            default -> throw new IllegalArgumentException();
        };
    }

    private void needPlayer(int player) {
        if (player < 0 || player >= d.players) {
            throw new IndexOutOfBoundsException();
        }
    }

    private void needTrain(int train) {
        if (train < 0 || train > d.players) {
            throw new IndexOutOfBoundsException();
        }
    }

    private void needTile(int tile) {
        for (int a = 0; a <= d.greatest; a++) {
            for (int b = a; b <= d.greatest; b++) {
                if (tile == 10 * a + b) {
                    return;
                }
            }
        }
        throw new IllegalArgumentException();
    }

    int player(int player, int what) {
        needPlayer(player);
        return switch (what) {
            case 0 -> d.hands.get(player).size();
            case 1 -> pips(d.hands.get(player));
            case 2 -> d.totals.get(player);
            case 3 -> player != d.turn ? 0 : (int) plays().stream().mapToInt(play -> play[0]).distinct().count();
            default -> throw new IllegalArgumentException();
        };
    }

    private static int element(List<Integer> list, int k) {
        if (k < 0 || k >= list.size()) {
            throw new NoSuchElementException();
        }
        return list.get(k);
    }

    int tile(int player, int k) {
        needPlayer(player);
        return element(new ArrayList<>(d.hands.get(player)), k);
    }

    int train(int train, int what) {
        needTrain(train);
        List<Integer> tiles = d.trains.get(train);
        return switch (what) {
            case 0 -> tiles.size();
            case 1 -> end(train);
            case 2 -> d.open.get(train) ? 1 : 0;
            case 3 -> tiles.isEmpty() ? -1 : tiles.get(tiles.size() - 1);
            case 4 -> pips(tiles);
            default -> throw new IllegalArgumentException();
        };
    }

    int laid(int train, int k) {
        needTrain(train);
        return element(d.trains.get(train), k);
    }

    int why(int tile, int train) {
        needTrain(train);
        needTile(tile);
        return reason(tile, train);
    }

    private int value(int tile, int train) {
        if (d.expression == null) {
            return pips(tile);
        }
        return (int) d.expression.of(pips(tile), tile % 11 == 0 ? 1 : 0, train == d.turn ? 1 : 0,
                train == d.players ? 1 : 0, d.hands.get(d.turn).size() - 1);
    }

    int best() {
        return plays().stream()
                .sorted((p, q) -> value(p[0], p[1]) != value(q[0], q[1])
                        ? Integer.compare(value(q[0], q[1]), value(p[0], p[1]))
                        : p[0] != q[0] ? Integer.compare(p[0], q[0]) : Integer.compare(p[1], q[1]))
                .findFirst().map(play -> 10 * play[0] + play[1]).orElse(-1);
    }

    int rank(int tile, int train) {
        needTrain(train);
        needTile(tile);
        if (reason(tile, train) != 0) {
            throw new NoSuchElementException();
        }
        return value(tile, train);
    }

    /** Tries all rows, in the order of their codes. */
    private final class Rows {
        private final List<Integer> hand;
        private final List<Integer> row = new ArrayList<>();
        private List<Integer> longest = new ArrayList<>();
        private int heaviest;

        Rows(int player) {
            hand = new ArrayList<>(d.hands.get(player));
            if (hand.size() <= 12) {
                grow(end(player));
            }
        }

        private void grow(int end) {
            if (row.size() > longest.size()) {
                longest = new ArrayList<>(row);
            }
            heaviest = Math.max(heaviest, pips(row));
            for (int code : hand) {
                if (!row.contains(code) && (code / 10 == end || code % 10 == end)) {
                    row.add(code);
                    grow(code / 10 == end ? code % 10 : code / 10);
                    row.remove(row.size() - 1);
                }
            }
        }
    }

    int longest(int player) {
        needPlayer(player);
        return d.hands.get(player).size() > 12 ? -2 : new Rows(player).longest.size();
    }

    int longestTile(int player, int k) {
        needPlayer(player);
        return element(new Rows(player).longest, k);
    }

    int heaviest(int player) {
        needPlayer(player);
        return d.hands.get(player).size() > 12 ? -2 : new Rows(player).heaviest;
    }

    int winner() {
        Data kept = d.copy();
        run(Integer.MAX_VALUE);
        int winner = 0;
        for (int p = 0; p < d.players; p++) {
            if (pips(d.hands.get(p)) < pips(d.hands.get(winner))) {
                winner = p;
            }
        }
        d = kept;
        return winner;
    }

    int stepsToEnd() {
        Data kept = d.copy();
        int steps = run(Integer.MAX_VALUE);
        d = kept;
        return steps;
    }

    double meanPips() {
        int pips = d.hands.stream().mapToInt(hand -> pips(hand)).sum();
        int tiles = d.hands.stream().mapToInt(hand -> hand.size()).sum();
        return tiles == 0 ? 0.0 : (double) pips / (double) tiles;
    }

    private int run(int most) {
        int steps = 0;
        while (d.over == 0 && steps < most) {
            int best = best();
            if (best >= 0) {
                doPlay(best / 10, best % 10);
            } else if (d.drew == 0 && !d.stock.isEmpty()) {
                doDraw();
            } else {
                doPass();
            }
            steps++;
        }
        return steps;
    }

    private void finish() {
        d.over = 1;
        d.rounds++;
        for (int p = 0; p < d.players; p++) {
            d.totals.set(p, d.totals.get(p) + pips(d.hands.get(p)));
        }
    }

    private void next() {
        d.turn = (d.turn + 1) % d.players;
        d.drew = 0;
    }

    private void doPlay(int tile, int train) {
        d.hands.get(d.turn).remove(tile);
        d.trains.get(train).add(tile);
        if (train == d.turn) {
            d.open.set(train, false);
        }
        d.passes = 0;
        boolean isDouble = tile / 10 == tile % 10;
        d.uncovered = isDouble ? train : -1;
        if (d.hands.get(d.turn).isEmpty()) {
            finish();
        } else if (isDouble) {
            d.drew = 0;
        } else {
            next();
        }
    }

    private int doDraw() {
        int code = d.stock.remove(0);
        d.hands.get(d.turn).add(code);
        d.drew = 1;
        d.passes = 0;
        return code;
    }

    private void doPass() {
        d.open.set(d.turn, true);
        d.passes++;
        if (d.passes == d.players) {
            finish();
        } else {
            next();
        }
    }

    int play(int tile, int train) {
        needTrain(train);
        needTile(tile);
        if (reason(tile, train) != 0) {
            throw new IllegalStateException();
        }
        change();
        doPlay(tile, train);
        return end(train);
    }

    int draw() {
        if (d.over == 1 || !plays().isEmpty() || d.drew == 1 || d.stock.isEmpty()) {
            throw new IllegalStateException();
        }
        change();
        return doDraw();
    }

    int pass() {
        if (d.over == 1 || !plays().isEmpty() || d.drew == 0 && !d.stock.isEmpty()) {
            throw new IllegalStateException();
        }
        change();
        doPass();
        return d.turn;
    }

    int auto(int steps) {
        if (steps < 1 || steps > 200) {
            throw new IllegalArgumentException();
        }
        change();
        return run(steps);
    }

    int deal(int hub, int seed) {
        if (hub < 0 || hub > d.greatest || seed < 0 || seed > 9999) {
            throw new IllegalArgumentException();
        }
        if (d.over == 0) {
            throw new IllegalStateException();
        }
        change();
        d.hub = hub;
        d.seed = seed;
        List<TreeSet<Integer>> none = new ArrayList<>();
        for (int p = 0; p < d.players; p++) {
            none.add(new TreeSet<>());
        }
        dealRound(none);
        return d.stock.size();
    }

    int undo() {
        if (changes.isEmpty()) {
            return -1;
        }
        d = changes.removeLast();
        return changes.size();
    }

    long checksum() {
        List<Integer> numbers = new ArrayList<>();
        for (int what = 0; what <= 12; what++) {
            numbers.add(state(what));
        }
        for (int p = 0; p < d.players; p++) {
            for (int what = 0; what <= 3; what++) {
                numbers.add(player(p, what));
            }
            numbers.addAll(d.hands.get(p));
        }
        for (int t = 0; t <= d.players; t++) {
            for (int what = 0; what <= 4; what++) {
                numbers.add(train(t, what));
            }
        }
        long sum = 0;
        for (int n : numbers) {
            sum = 31 * sum + n;
        }
        return sum;
    }

    /** Reads byte by byte, without tokens kept. */
    private final class Parser {
        private final List<Integer> text;
        private int at;

        Parser(List<Integer> text) {
            this.text = text;
        }

        private int here() {
            while (at < text.size() && text.get(at) == ' ') {
                at++;
            }
            return at < text.size() ? text.get(at) : -1;
        }

        private Bad syntax() {
            here();
            return new Bad(HubTrains.SYNTAX_ERROR, at);
        }

        private boolean numberHere() {
            return here() >= '0' && here() <= '9';
        }

        private int number(int low, int high) {
            if (!numberHere()) {
                throw syntax();
            }
            int first = at;
            StringBuilder digits = new StringBuilder();
            while (at < text.size() && Character.isDigit(text.get(at))) {
                digits.append((char) (int) text.get(at++));
            }
            java.math.BigInteger value = new java.math.BigInteger(digits.toString());
            if (value.compareTo(java.math.BigInteger.valueOf(low)) < 0
                    || value.compareTo(java.math.BigInteger.valueOf(high)) > 0) {
                throw new Bad(HubTrains.OUT_OF_RANGE, first);
            }
            return value.intValue();
        }

        private String wordHere() {
            here();
            StringBuilder word = new StringBuilder();
            for (int k = at; k < text.size() && text.get(k) >= 'a' && text.get(k) <= 'z'; k++) {
                word.append((char) (int) text.get(k));
            }
            return word.toString();
        }

        private void sign(char sign) {
            if (here() != sign) {
                throw syntax();
            }
            at++;
        }

        void setup() {
            Data fresh = new Data();
            if (!wordHere().equals("trains")) {
                throw syntax();
            }
            at += 6;
            fresh.greatest = number(3, 9);
            fresh.players = number(2, 4);
            fresh.handSize = number(1, 12);
            fresh.hub = fresh.greatest;
            sign(';');
            List<TreeSet<Integer>> given = new ArrayList<>();
            for (int p = 0; p < fresh.players; p++) {
                given.add(new TreeSet<>());
                fresh.totals.add(0);
            }
            List<String> told = new ArrayList<>();
            while (here() >= 0) {
                String word = wordHere();
                boolean again = told.contains(word) && !word.equals("give");
                boolean late = word.equals("hub") && told.contains("give");
                if (again || late || !List.of("hub", "seed", "give", "rank").contains(word)) {
                    throw syntax();
                }
                told.add(word);
                at += word.length();
                switch (word) {
                    case "hub" -> fresh.hub = number(0, fresh.greatest);
                    case "seed" -> fresh.seed = number(0, 9999);
                    case "give" -> give(fresh, given);
                    default -> fresh.expression = sum(0);
                }
                sign(';');
            }
            change();
            d = fresh;
            dealRound(given);
        }

        private void give(Data fresh, List<TreeSet<Integer>> given) {
            int player = number(0, fresh.players - 1);
            do {
                here();
                int first = at;
                int a = number(0, fresh.greatest);
                sign('-');
                int b = number(0, fresh.greatest);
                int code = a < b ? 10 * a + b : 10 * b + a;
                if (code == 11 * fresh.hub || given.stream().anyMatch(hand -> hand.contains(code))) {
                    throw new Bad(HubTrains.REPEATED, first);
                }
                if (given.get(player).size() == fresh.handSize) {
                    throw new Bad(HubTrains.TOO_MANY, first);
                }
                given.get(player).add(code);
            } while (numberHere());
        }

        private long limited(long value) {
            return value > 1000000 ? 1000000 : value < -1000000 ? -1000000 : value;
        }

        private Expression sum(int depth) {
            Expression sum = term(depth);
            while (here() == '+' || here() == '-') {
                boolean plus = here() == '+';
                at++;
                Expression a = sum;
                Expression b = term(depth);
                sum = (p, q, r, s, t) -> limited(a.of(p, q, r, s, t) + (plus ? 1 : -1) * b.of(p, q, r, s, t));
            }
            return sum;
        }

        private Expression term(int depth) {
            Expression term = factor(depth);
            while (here() == '*' || here() == '/') {
                boolean times = here() == '*';
                at++;
                Expression a = term;
                Expression b = factor(depth);
                term = (p, q, r, s, t) -> {
                    long left = a.of(p, q, r, s, t);
                    long right = b.of(p, q, r, s, t);
                    return limited(times ? left * right : right == 0 ? 0 : left / right);
                };
            }
            return term;
        }

        private Expression factor(int depth) {
            if (here() == '(') {
                if (depth == 4) {
                    throw new Bad(HubTrains.TOO_DEEP, at);
                }
                at++;
                Expression inner = sum(depth + 1);
                sign(')');
                return inner;
            }
            if (numberHere()) {
                int number = number(0, 9999);
                return (p, q, r, s, t) -> number;
            }
            String word = wordHere();
            Expression variable = switch (word) {
                case "pips" -> (p, q, r, s, t) -> p;
                case "double" -> (p, q, r, s, t) -> q;
                case "own" -> (p, q, r, s, t) -> r;
                case "public" -> (p, q, r, s, t) -> s;
                case "left" -> (p, q, r, s, t) -> t;
                default -> throw syntax();
            };
            at += word.length();
            return variable;
        }
    }
}
