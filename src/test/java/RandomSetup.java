import java.util.Random;

/** A setup text by chance: mostly a right one, sometimes with an error in it. */
final class RandomSetup {
    private static final String SIGNS = " ;-+*/()09az5A\t\0\u00ff3hub";
    private static final String[] WORDS = {"pips", "double", "own", "public", "left"};
    private static final int[] FACTORS = {0, 1, 2, 3, 10, 100, 5000, 9999};

    private final Random random;
    private final StringBuilder text = new StringBuilder();
    private final int greatest;
    private final int players;
    private final int handSize;
    private int left = 40;

    RandomSetup(Random random) {
        this.random = random;
        greatest = 3 + random.nextInt(random.nextBoolean() ? 7 : 2);
        players = 2 + random.nextInt(3);
        handSize = 1 + random.nextInt(12);
    }

    String text() {
        word("trains");
        number(greatest);
        number(players);
        number(handSize);
        sign(";");
        if (chance(2)) {
            statement("hub", 0, random.nextInt(greatest + 1));
        }
        for (int k = random.nextInt(4); k > 0; k--) {
            give();
        }
        if (chance(2)) {
            statement("seed", 0, random.nextInt(10000));
        }
        if (chance(2)) {
            word("rank");
            sum(random.nextInt(5));
            sign(";");
        }
        if (chance(20)) {
            statement(chance(2) ? "hub" : "seed", 1, 1);
        }
        spaces();
        for (int k = chance(4) ? 1 + random.nextInt(2) : 0; k > 0; k--) {
            mutate();
        }
        if (text.length() > 500) {
            text.setLength(500);
        }
        return text.toString();
    }

    private boolean chance(int of) {
        return random.nextInt(of) == 0;
    }

    private void spaces() {
        for (int k = chance(6) ? 1 + random.nextInt(3) : 0; k > 0; k--) {
            text.append(' ');
        }
    }

    private void word(String word) {
        spaces();
        text.append(word);
    }

    private void sign(String sign) {
        spaces();
        text.append(sign);
    }

    private void number(int number) {
        if (text.length() > 0 && Character.isDigit(text.charAt(text.length() - 1))) {
            text.append(' ');
        }
        spaces();
        text.append("0".repeat(chance(10) ? 1 + random.nextInt(12) : 0));
        int told = chance(150) ? number + 10 : number;
        text.append(told);
        text.append("0".repeat(chance(200) ? 15 : 0));
    }

    private void statement(String name, int low, int number) {
        word(name);
        number(Math.max(low, number));
        sign(";");
    }

    /** Few enough that some are right: repeated tiles and too many come by chance. */
    private void give() {
        word("give");
        number(random.nextInt(players));
        int count = 1 + random.nextInt(Math.min(3, handSize));
        for (int k = 0; k < count; k++) {
            number(random.nextInt(greatest + 1));
            sign("-");
            number(random.nextInt(greatest + 1));
        }
        sign(";");
    }

    private void sum(int depth) {
        term(depth);
        while (chance(2) && left > 0) {
            sign(chance(2) ? "+" : "-");
            term(depth);
        }
    }

    private void term(int depth) {
        factor(depth);
        while (chance(2) && left > 0) {
            sign(chance(3) ? "/" : "*");
            factor(depth);
        }
    }

    private void factor(int depth) {
        left--;
        if (depth > 0 && chance(2)) {
            sign("(");
            sum(depth - 1);
            sign(")");
        } else if (chance(3)) {
            number(FACTORS[random.nextInt(FACTORS.length)]);
        } else {
            word(WORDS[random.nextInt(WORDS.length)]);
        }
    }

    private void mutate() {
        int at = random.nextInt(text.length());
        char sign = SIGNS.charAt(random.nextInt(SIGNS.length()));
        switch (random.nextInt(4)) {
            case 0 -> text.deleteCharAt(at);
            case 1 -> text.insert(at, sign);
            case 2 -> text.setCharAt(at, sign);
            default -> text.insert(at, "(".repeat(random.nextInt(6)));
        }
        if (chance(6)) {
            text.setLength(random.nextInt(text.length() + 1));
        }
        if (text.length() == 0) {
            text.append(';');
        }
    }
}
