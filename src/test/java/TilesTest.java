import java.util.ArrayList;
import java.util.List;

/** The sentences of "Terms" on tiles, trains and dealing that name a boundary case, with a test for each one. */
public final class TilesTest extends Scenes {
    private static final Checks checks = new Checks("TilesTest");

    public static void main(String[] args) {
        setsOfEachGreatestNumber();
        codesOfTheSet();
        pipsOfTheLeastAndTheGreatestTile();
        handsAreInOrder();
        playersAndTrains();
        theDoubleOfTheHubLiesInTheMiddle();
        anEmptyTrainEndsWithTheHub();
        allTrainsAreClosedWhenARoundBegins();
        thePublicTrainIsAlwaysOpen();
        aRowOfNoTile();
        aRowOfOneTile();
        aRowOfTwoTiles();
        theSeedWraps();
        handsAreFilledFromTheFront();
        theRowIsEmpty();
        givenTilesAreNotInTheRow();
        theStockIsTheRestWithItsFrontFirst();
        playerZeroBeginsAndDidNotDraw();
        beforeTheFirstLoad();
        checks.end();
    }

    private static List<Integer> codes(int greatest) {
        List<Integer> codes = new ArrayList<>();
        for (int a = 0; a <= greatest; a++) {
            for (int b = a; b <= greatest; b++) {
                codes.add(10 * a + b);
            }
        }
        return codes;
    }

    /** Mixes the row; the seed is kept as its 32 bits without a sign. */
    private static long mixed(List<Integer> row, long seed) {
        long bits = seed;
        for (int k = row.size() - 1; k >= 1; k--) {
            bits = (bits * 1103515245L + 12345L) % (1L << 32);
            int other = (int) (bits / (1L << 16) % (1L << 15) % (k + 1));
            int moved = row.get(k);
            row.set(k, row.get(other));
            row.set(other, moved);
        }
        return bits;
    }

    private static void setsOfEachGreatestNumber() {
        int[] tiles = {10, 15, 21, 28, 36, 45, 55};
        for (int greatest = 3; greatest <= 9; greatest++) {
            int due = tiles[greatest - 3] - 1 - 2;
            checks.answers("one tile for each two numbers up to " + greatest, due,
                    setup("trains " + greatest + " 2 1;"));
        }
        checks.answers("no set up to 2", HubTrains.OUT_OF_RANGE, setup("trains 2 2 1;"));
        checks.answers("no set up to 10", HubTrains.OUT_OF_RANGE, setup("trains 10 2 1;"));
    }

    private static Checks.Call setup(String text) {
        return () -> Checks.load(new HubTrains(), text);
    }

    private static void codesOfTheSet() {
        for (int greatest = 3; greatest <= 9; greatest++) {
            HubTrains t = Checks.loaded("trains " + greatest + " 2 1;");
            List<Integer> codes = codes(greatest);
            for (int code = -12; code <= 112; code++) {
                int asked = code;
                boolean refused = Checks.answer(() -> t.why(asked, 0)).equals(ARGUMENT);
                checks.same("a tile of the set up to " + greatest + ": " + code, !refused, codes.contains(code));
            }
        }
    }

    private static void pipsOfTheLeastAndTheGreatestTile() {
        HubTrains t = Checks.loaded("trains 9 2 1; hub 1; give 0 0-0; give 1 9-9;");
        checks.same("00 counts 0 pips", t.tile(0, 0) + " " + t.player(0, 1), "0 0");
        checks.same("99 counts 18 pips", t.tile(1, 0) + " " + t.player(1, 1), "99 18");
        HubTrains low = Checks.loaded("trains 9 2 1; hub 1; give 0 9-0; give 1 8-9;");
        checks.same("the code begins with the lower number", low.tile(0, 0) + " " + low.player(0, 1), "9 9");
        checks.same("89 counts 17 pips", low.player(1, 1), 17);
    }

    private static void handsAreInOrder() {
        HubTrains t = Checks.loaded("trains 9 2 4; hub 5; give 0 9-9 0-9 1-1 0-0; give 1 9-8 8-8 1-0 9-1;");
        checks.same("in order by their codes", hand(t, 0), "0 9 11 99");
        checks.same("in order by their codes", hand(t, 1), "1 19 88 89");
    }

    private static void playersAndTrains() {
        for (int players = 2; players <= 4; players++) {
            int count = players;
            HubTrains t = Checks.loaded("trains 3 " + players + " 1;");
            checks.same("players", t.state(1), players);
            checks.answers("the last player", 1, () -> t.player(count - 1, 0));
            checks.answers("none behind the last player", INDEX, () -> t.player(count, 0));
            checks.answers("the train of the last player is closed", 0, () -> t.train(count - 1, 2));
            checks.answers("the last train is public", 1, () -> t.train(count, 2));
            checks.answers("none behind the last train", INDEX, () -> t.train(count + 1, 2));
        }
    }

    private static void theDoubleOfTheHubLiesInTheMiddle() {
        for (int greatest = 3; greatest <= 4; greatest++) {
            for (int hub = 0; hub <= greatest; hub++) {
                HubTrains t = Checks.loaded("trains " + greatest + " 2 12; hub " + hub + ";");
                List<Integer> due = codes(greatest);
                due.remove(Integer.valueOf(11 * hub));
                String hands = " " + hand(t, 0) + " " + hand(t, 1) + " ";
                checks.same("all tiles are in hands", t.player(0, 0) + t.player(1, 0) + t.state(7), due.size());
                for (int code : due) {
                    checks.same("hub " + hub + ": " + code + " is in a hand", hands.contains(" " + code + " "), true);
                }
            }
        }
    }

    private static void anEmptyTrainEndsWithTheHub() {
        for (int hub = 0; hub <= 9; hub++) {
            HubTrains t = Checks.loaded("trains 9 4 1; hub " + hub + ";");
            for (int train = 0; train <= 4; train++) {
                checks.same("the end of the empty train " + train, t.train(train, 1), hub);
            }
        }
        HubTrains laid = played(ROWS, 3, 0);
        checks.same("behind a tile the number to lay at", laid.train(0, 1) + " " + laid.train(1, 1), "0 3");
    }

    private static void allTrainsAreClosedWhenARoundBegins() {
        HubTrains t = stuck();
        t.auto(200);
        checks.same("open at the end", t.train(0, 2) + " " + t.train(1, 2) + " " + t.train(2, 2), "1 1 1");
        t.deal(0, 1);
        checks.same("closed behind a deal", t.train(0, 2) + " " + t.train(1, 2) + " " + t.train(2, 2), "0 0 0");
        HubTrains again = stuck();
        again.auto(200);
        Checks.load(again, STUCK);
        checks.same("closed behind a load",
                again.train(0, 2) + " " + again.train(1, 2) + " " + again.train(2, 2), "0 0 0");
        HubTrains first = new HubTrains();
        checks.same("closed in a new object", first.train(0, 2) + " " + first.train(1, 2), "0 0");
    }

    private static void thePublicTrainIsAlwaysOpen() {
        HubTrains t = Checks.loaded(THREE);
        checks.same("at first", t.train(3, 2), 1);
        t.pass();
        t.play(1, 3);
        checks.same("behind a play on it", t.train(3, 2), 1);
        checks.same("for the next", t.why(2, 3), 5);
        t.play(2, 2);
        t.play(12, 3);
        checks.same("behind the next one", t.train(3, 2), 1);
        t.auto(200);
        checks.same("when the round is over", t.state(8) + " " + t.train(3, 2), "1 1");
    }

    private static void aRowOfNoTile() {
        for (int seed : new int[] {0, 1, 9999}) {
            HubTrains t = Checks.loaded(THREE + "seed " + seed + ";");
            checks.same("no tile: the seed stays", t.state(12) + " " + t.state(7), seed + " 0");
        }
    }

    private static void aRowOfOneTile() {
        for (int seed : new int[] {0, 1, 9999}) {
            HubTrains t = Checks.loaded(ROWS + "seed " + seed + ";");
            checks.same("one tile: the seed stays", t.state(12) + " " + t.state(7), seed + " 1");
        }
    }

    /** 22 and 23 remain. The seed 2 becomes 2207042835, which is above the greatest int. */
    private static void aRowOfTwoTiles() {
        String given = "trains 3 2 4; give 0 0-0 0-1 0-2 0-3; give 1 1-1 1-2 1-3;";
        HubTrains swapped = Checks.loaded(given + "seed 1;");
        checks.same("seed 1: place 1 and place 0 are exchanged", hand(swapped, 1), "11 12 13 23");
        checks.same("seed 1: the seed moves once", swapped.state(12), 1103527590);
        HubTrains zero = Checks.loaded(given + "seed 0;");
        checks.same("seed 0: place 1 and place 0 are exchanged", hand(zero, 1), "11 12 13 23");
        checks.same("seed 0: the seed moves once", zero.state(12), 12345);
        HubTrains wrapped = Checks.loaded(given + "seed 2;");
        checks.same("seed 2: place 1 and place 0 are exchanged", hand(wrapped, 1), "11 12 13 23");
        checks.same("seed 2: the seed wraps", wrapped.state(12), 2207042835L - (1L << 32));
        onePlaceWithItself(given);
    }

    /** The first seed by which place 1 is exchanged with itself, so the row stays 22 23. */
    private static void onePlaceWithItself(String given) {
        int seed = 0;
        while ((seed * 1103515245L + 12345L) / 65536 % 32768 % 2 == 0) {
            seed++;
        }
        HubTrains t = Checks.loaded(given + "seed " + seed + ";");
        checks.same("seed " + seed + ": place 1 and place 1 are exchanged", hand(t, 1), "11 12 13 22");
    }

    private static void theSeedWraps() {
        for (int greatest = 3; greatest <= 9; greatest++) {
            for (int seed : new int[] {0, 1, 2, 4321, 9998, 9999}) {
                HubTrains t = Checks.loaded("trains " + greatest + " 3 4; hub 1; seed " + seed + ";");
                List<Integer> row = codes(greatest);
                row.remove(Integer.valueOf(11));
                checks.same("the seed is an int that wraps", t.state(12), (int) mixed(row, seed));
                String name = "the row by the seed " + seed + " up to " + greatest + ", player ";
                checks.same(name + 0, hand(t, 0), sorted(row, 0, 4));
                checks.same(name + 1, hand(t, 1), sorted(row, 4, 8));
                checks.same(name + 2, hand(t, 2), sorted(row, 8, Math.min(12, row.size())));
            }
        }
    }

    private static String sorted(List<Integer> row, int from, int to) {
        List<Integer> part = new ArrayList<>(row.subList(from, to));
        part.sort(null);
        StringBuilder all = new StringBuilder();
        for (int code : part) {
            all.append(all.length() == 0 ? "" : " ").append(code);
        }
        return all.toString();
    }

    private static void handsAreFilledFromTheFront() {
        List<Integer> row = codes(9);
        row.remove(Integer.valueOf(99));
        row.remove(Integer.valueOf(1));
        row.remove(Integer.valueOf(12));
        row.remove(Integer.valueOf(23));
        mixed(row, 77);
        HubTrains t = Checks.loaded("trains 9 3 3; give 1 0-1 1-2 2-3; seed 77;");
        checks.same("player 0 takes the first three", hand(t, 0), sorted(row, 0, 3));
        checks.same("a hand that is full takes none", hand(t, 1), "1 12 23");
        checks.same("player 2 takes the next three", hand(t, 2), sorted(row, 3, 6));
        HubTrains most = Checks.loaded("trains 9 4 12;");
        checks.same("hands of 12", most.player(0, 0) + " " + most.player(3, 0) + " " + most.state(7), "12 12 6");
        HubTrains least = Checks.loaded("trains 9 4 1;");
        checks.same("hands of 1", least.player(0, 0) + " " + least.player(3, 0) + " " + least.state(7), "1 1 50");
    }

    private static String counts(String text) {
        HubTrains t = Checks.loaded(text);
        StringBuilder all = new StringBuilder();
        for (int p = 0; p < t.state(1); p++) {
            all.append(t.player(p, 0)).append(" ");
        }
        return all.append("and ").append(t.state(7)).toString();
    }

    private static void theRowIsEmpty() {
        checks.same("one tile too many", counts("trains 3 2 4;"), "4 4 and 1");
        checks.same("just enough", counts("trains 3 3 3;"), "3 3 3 and 0");
        checks.same("one tile too few", counts("trains 3 2 5;"), "5 4 and 0");
        checks.same("none for the last one", counts("trains 3 4 3;"), "3 3 3 0 and 0");
        checks.same("all for the first one", counts("trains 3 2 9;"), "9 0 and 0");
        checks.same("too few for the first one", counts("trains 3 4 12;"), "9 0 0 0 and 0");
        checks.same("too few behind gives", counts("trains 3 4 5; give 3 0-0 0-1 0-2;"), "5 1 0 3 and 0");
    }

    private static void givenTilesAreNotInTheRow() {
        HubTrains t = Checks.loaded("trains 3 2 9; give 1 0-0 1-1 2-2;");
        checks.same("the others are dealt", hand(t, 0) + ", " + hand(t, 1), "1 2 3 12 13 23, 0 11 22");
    }

    /** 04 and 14 remain; the seed 1 exchanges them. */
    private static void theStockIsTheRestWithItsFrontFirst() {
        HubTrains t = Checks.loaded("trains 4 3 4; hub 0; give 0 1-1 1-2 1-3 2-2; give 1 2-3 3-3 2-4 3-4;"
                + "give 2 0-1 0-2 0-3 4-4; seed 1;");
        checks.same("the front", t.draw() + " " + t.state(7), "14 1");
        checks.same("the player cannot play it", t.pass(), 1);
        checks.same("the next one, which is the last", t.draw() + " " + t.state(7), "4 0");
    }

    private static void playerZeroBeginsAndDidNotDraw() {
        HubTrains t = stuck();
        t.auto(200);
        checks.same("player 2 was the last", t.state(4), 2);
        t.deal(4, 1);
        checks.same("behind a deal", t.state(4) + " " + t.state(5), "0 0");
        HubTrains drew = new HubTrains();
        drew.draw();
        checks.same("a player drew", drew.state(5), 1);
        Checks.load(drew, ROWS);
        checks.same("behind a load", drew.state(4) + " " + drew.state(5), "0 0");
    }

    private static void beforeTheFirstLoad() {
        HubTrains loaded = Checks.loaded("trains 3 2 1; hub 3; seed 1;");
        HubTrains t = new HubTrains();
        checks.same("the same as by its setup", t.checksum(), loaded.checksum());
        checks.same("numbers", t.state(0) + " " + t.state(1) + " " + t.state(2) + " " + t.state(3), "3 2 1 3");
        List<Integer> row = codes(3);
        row.remove(Integer.valueOf(33));
        checks.same("the round is dealt by the seed 1", t.state(12), (int) mixed(row, 1));
        checks.same("its hands", hand(t, 0) + ", " + hand(t, 1), row.get(0) + ", " + row.get(1));
        for (int k = 2; t.state(8) == 0; k++) {
            if (t.best() >= 0) {
                checks.same("no expression", t.rank(t.best() / 10, t.best() % 10),
                        t.best() / 100 + t.best() / 10 % 10);
            }
            if (t.best() < 0 && t.state(5) == 0 && t.state(7) > 0) {
                checks.same("its stock", t.draw(), row.get(k));
            } else {
                t.auto(1);
                k--;
            }
        }
        HubTrains failed = new HubTrains();
        Checks.load(failed, "trains 4 3 2; hub 5;");
        checks.same("a load that fails is not the first one", failed.checksum(), loaded.checksum());
    }
}
