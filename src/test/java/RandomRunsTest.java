import java.util.Random;

/** Runs of at most 512 calls, chosen by fixed seeds, in which each answer is the one of the model. */
public final class RandomRunsTest {
    private static final int RUNS = 1500;
    private static final int CALLS = 512;
    private static final int[] STRANGE = {
        Integer.MIN_VALUE, -100, -11, -10, -2, -1, 0, 1, 2, 3, 4, 5, 10, 12, 13, 55, 98, 99, 100, 101, 109, 200, 201,
        9999, 10000, Integer.MAX_VALUE,
    };

    private final Checks checks;
    private final Random random;
    private final String name;
    private final HubTrains trains = new HubTrains();
    private final Model model = new Model();
    private int calls;

    private RandomRunsTest(Checks checks, int run) {
        this.checks = checks;
        this.random = new Random(run);
        this.name = "run " + run + ", call ";
    }

    public static void main(String[] args) {
        Checks checks = new Checks("RandomRunsTest");
        for (int run = 0; run < RUNS; run++) {
            new RandomRunsTest(checks, run).play(run % 3);
        }
        checks.end();
    }

    private void play(int kind) {
        if (kind > 0) {
            load();
        }
        while (calls < CALLS - 30) {
            int choice = random.nextInt(100);
            if (choice < 3 && kind != 1) {
                load();
            } else if (choice < 45) {
                move();
            } else if (choice < 52) {
                anyChange();
            } else {
                ask();
            }
            if (random.nextInt(4) == 0) {
                compare("checksum()", () -> trains.checksum(), () -> model.checksum());
            }
        }
    }

    private void compare(String call, Checks.Call got, Checks.Call due) {
        calls++;
        checks.same(name + calls + ": " + call, Checks.answer(got), Checks.answer(due));
    }

    private int below(int bound) {
        return random.nextInt(bound);
    }

    /** Mostly from 0 to below the bound, sometimes anything. */
    private int number(int bound) {
        return below(12) == 0 ? STRANGE[below(STRANGE.length)] : below(bound);
    }

    private int tileCode() {
        int player = model.state(4);
        int count = model.player(player, 0);
        if (count > 0 && below(3) > 0) {
            return model.tile(player, below(count));
        }
        int a = below(model.state(0) + 1);
        int b = below(model.state(0) + 1);
        return below(10) == 0 ? number(100) : 10 * Math.min(a, b) + Math.max(a, b);
    }

    private void load() {
        String text = new RandomSetup(random).text();
        for (int[] w : Checks.words(text)) {
            compare("append", () -> trains.append(w[0], w[1], w[2], w[3], w[4]), () -> model.append(w));
        }
        int length = below(20) == 0 ? number(60) : text.length();
        compare("load(" + length + ") of <" + text + ">", () -> trains.load(length), () -> model.load(length));
        compare("errorOffset()", () -> trains.errorOffset(), () -> model.errorOffset());
    }

    /** What can be done now, so that rounds come to their ends. */
    private void move() {
        int best = model.best();
        if (model.state(8) == 1) {
            anyDeal();
        } else if (best >= 0 && below(4) > 0) {
            int tile = below(2) == 0 ? best / 10 : tileCode();
            int train = below(2) == 0 ? best % 10 : below(model.state(1) + 1);
            compare("play(" + tile + ", " + train + ")", () -> trains.play(tile, train), () -> model.play(tile, train));
        } else if (below(8) == 0) {
            int steps = number(30);
            compare("auto(" + steps + ")", () -> trains.auto(steps), () -> model.auto(steps));
        } else {
            compare("draw()", () -> trains.draw(), () -> model.draw());
            compare("pass()", () -> trains.pass(), () -> model.pass());
        }
    }

    private void anyDeal() {
        int hub = number(model.state(0) + 1);
        int seed = number(10000);
        compare("deal(" + hub + ", " + seed + ")", () -> trains.deal(hub, seed), () -> model.deal(hub, seed));
    }

    private void anyChange() {
        int tile = tileCode();
        int train = number(5);
        switch (below(6)) {
            case 0 -> compare("play(" + tile + ", " + train + ")",
                    () -> trains.play(tile, train), () -> model.play(tile, train));
            case 1 -> compare("draw()", () -> trains.draw(), () -> model.draw());
            case 2 -> compare("pass()", () -> trains.pass(), () -> model.pass());
            case 3 -> compare("auto(" + train + ")", () -> trains.auto(train), () -> model.auto(train));
            case 4 -> anyDeal();
            default -> {
                int times = 1 + below(10);
                for (int k = 0; k < times; k++) {
                    compare("undo()", () -> trains.undo(), () -> model.undo());
                }
            }
        }
    }

    private void ask() {
        int player = number(5);
        int train = number(6);
        int k = number(14);
        int tile = tileCode();
        switch (below(14)) {
            case 0 -> compare("state(" + k + ")", () -> trains.state(k), () -> model.state(k));
            case 1 -> compare("player(" + player + ", " + k % 5 + ")",
                    () -> trains.player(player, k % 5), () -> model.player(player, k % 5));
            case 2 -> compare("tile(" + player + ", " + k + ")",
                    () -> trains.tile(player, k), () -> model.tile(player, k));
            case 3 -> compare("train(" + train + ", " + k % 6 + ")",
                    () -> trains.train(train, k % 6), () -> model.train(train, k % 6));
            case 4 -> compare("laid(" + train + ", " + k + ")",
                    () -> trains.laid(train, k), () -> model.laid(train, k));
            case 5 -> compare("why(" + tile + ", " + train + ")",
                    () -> trains.why(tile, train), () -> model.why(tile, train));
            case 6 -> compare("best()", () -> trains.best(), () -> model.best());
            case 7 -> compare("rank(" + tile + ", " + train + ")",
                    () -> trains.rank(tile, train), () -> model.rank(tile, train));
            case 8 -> compare("longest(" + player + ")", () -> trains.longest(player), () -> model.longest(player));
            case 9 -> compare("longestTile(" + player + ", " + k + ")",
                    () -> trains.longestTile(player, k), () -> model.longestTile(player, k));
            case 10 -> compare("heaviest(" + player + ")", () -> trains.heaviest(player), () -> model.heaviest(player));
            case 11 -> compare("winner()", () -> trains.winner(), () -> model.winner());
            case 12 -> compare("stepsToEnd()", () -> trains.stepsToEnd(), () -> model.stepsToEnd());
            default -> compare("meanPips()", () -> trains.meanPips(), () -> model.meanPips());
        }
    }
}
