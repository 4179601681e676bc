/** For each promise of the document: ordinary inputs, the edges that it names, and wrong inputs, worked out by hand. */
public final class PromiseTest extends Scenes {
    private static final Checks checks = new Checks("PromiseTest");

    public static void main(String[] args) {
        aNewObject();
        appendPromise();
        loadPromise();
        errorOffsetPromise();
        statePromise();
        playerPromise();
        tilePromise();
        trainPromise();
        laidPromise();
        whyPromise();
        bestPromise();
        rankPromise();
        longestPromise();
        longestTilePromise();
        heaviestPromise();
        winnerPromise();
        stepsToEndPromise();
        meanPipsPromise();
        playPromise();
        drawPromise();
        passPromise();
        autoPromise();
        dealPromise();
        undoPromise();
        checksumPromise();
        checks.end();
    }

    private static void aNewObject() {
        HubTrains t = new HubTrains();
        checks.same("1: states", states(t), "3 2 1 3 0 0 -1 7 0 0 0 0 -1661227463");
        checks.same("1: hand 0", hand(t, 0), "2");
        checks.same("1: hand 1", hand(t, 1), "11");
        checks.same("1: draw 0", t.draw(), 0);
        checks.same("1: the seed counts on", t.state(12), -1661227463);
        checks.answers("1: the buffer is empty", ARGUMENT, () -> new HubTrains().load(1));
        checks.answers("1: the empty text", HubTrains.SYNTAX_ERROR, () -> new HubTrains().load(0));
        checks.answers("1: no error offset", -1, () -> new HubTrains().errorOffset());
        checks.answers("1: nothing to undo", -1, () -> new HubTrains().undo());
    }

    private static void appendPromise() {
        HubTrains t = new HubTrains();
        checks.same("2: bytes from the most significant on",
                t.append(0x74726169, 0x6e732033, 0x20322031, 0x3b202020, 0x20202020), 20);
        checks.same("2: they are the text", t.load(13), 7);
        for (int k = 1; k <= 25; k++) {
            checks.same("2: length", t.append(0x20202020, 0x20202020, 0x20202020, 0x20202020, 0x20202020), 20 * k);
        }
        checks.same("2: above 500", t.append(0, 0, 0, 0, 0), -1);
        checks.answers("2: nothing was appended", ARGUMENT, () -> t.load(501));
        checks.same("2: all of 500 can be read", t.load(500), HubTrains.SYNTAX_ERROR);
        checks.same("2: to its end", t.errorOffset(), 500);
        checks.same("2: empty again", t.append(-1, -1, -1, -1, -1), 20);
        checks.same("2: byte 255", t.load(20), HubTrains.SYNTAX_ERROR);
        checks.same("2: byte 255 is no space", t.errorOffset(), 0);
    }

    private static void loadPromise() {
        HubTrains t = new HubTrains();
        checks.same("3: stock", Checks.load(t, "trains 4 3 3; hub 2; seed 1234; give 0 4-1; give 2 0-0 3-3;"), 5);
        checks.same("3: states", states(t).startsWith("4 3 3 2 0 0 -1 5 0 0 "), true);
        checks.same("3: seed", t.state(12), -1214634056);
        checks.same("3: hand 0", hand(t, 0), "2 14 34");
        checks.same("3: hand 1", hand(t, 1), "13 23 24");
        checks.same("3: hand 2", hand(t, 2), "0 4 33");
        checks.same("3: the greatest number", Checks.load(t, "trains 9 4 12; seed 9999;"), 6);
        checks.same("3: the hub without a statement", t.state(3), 9);
        checks.same("3: hand 3", hand(t, 3), "4 9 15 23 28 34 44 45 46 57 59 69");
        checks.same("3: seed", t.state(12), -1094765800);
        checks.same("3: the seed 0", Checks.load(t, "trains 9 4 12; hub 0; seed 0;"), 6);
        checks.same("3: hand 3 of it", hand(t, 3), "2 6 8 15 22 28 36 37 38 56 66 99");
        checks.same("3: the seed without a statement", Checks.load(t, "trains 3 2 1;"), 7);
        checks.same("3: seed", t.state(12), -1661227463);
        checks.same("3: no tile to mix", Checks.load(t, THREE), 0);
        checks.same("3: the seed stays", t.state(12), 1);
        checks.same("3: too few tiles", Checks.load(t, "trains 3 4 12;"), 0);
        checks.same("3: the first takes all", t.player(0, 0) + " " + t.player(1, 0), "9 0");
        checks.same("3: words and numbers side by side",
                Checks.load(t, "trains3 2 1;hub0;seed5;give1 1-2;rank2*pips;"), 7);
        checks.same("3: spaces", Checks.load(t, "  trains  3  2  1  ;  give  1  1  -  2  2-1;  "), HubTrains.REPEATED);
        checks.same("3: spaces", Checks.load(t, "  trains  3  2  1  ;  give  1  1  -  2  ;   "), 7);
        checks.same("3: leading zeros", Checks.load(t, "trains 003 0000000000000002 01;seed 00000000009999;"), 7);
        checks.same("3: give of a player several times", Checks.load(t, "trains 3 2 2;give 1 0-0;give 1 2-2;"), 5);
        checks.same("3: hand 1", hand(t, 1), "0 22");
        checks.same("3: each order", Checks.load(t, "trains 3 2 1;rank own;give 0 0-0;seed 3;"), 7);
        checks.answers("3: negative", ARGUMENT, () -> t.load(-1));
        checks.answers("3: too long", ARGUMENT, () -> t.load(1));
        checks.answers("3: far too long", ARGUMENT, () -> t.load(MAX));
        checks.answers("3: far too little", ARGUMENT, () -> t.load(MIN));
        loadReplaces();
    }

    private static void loadReplaces() {
        HubTrains t = played("trains 3 2 1; give 0 0-3; give 1 2-3; rank 7;", 3, 0);
        checks.same("3: a round is over", t.state(9) + " " + t.player(1, 2), "1 5");
        long before = t.checksum();
        Checks.append(t, "trains 3 2 1; give 1");
        checks.answers("3: the buffer stays", ARGUMENT, () -> t.load(21));
        checks.same("3: an error", t.load(20), HubTrains.SYNTAX_ERROR);
        checks.same("3: an error changes nothing", t.checksum(), before);
        checks.answers("3: an error empties the buffer", ARGUMENT, () -> t.load(1));
        checks.same("3: the next", Checks.load(t, "trains 3 2 1; give 0 0-3; give 1 2-3;"), 7);
        checks.same("3: totals and rounds are 0", t.state(9) + " " + t.state(8) + " " + t.player(1, 2), "0 0 0");
        checks.same("3: trains are empty", t.train(0, 0), 0);
        checks.same("3: no expression", t.rank(3, 0), 3);
    }

    private static void errorOffsetPromise() {
        HubTrains t = new HubTrains();
        checks.same("4: at first", t.errorOffset(), -1);
        Checks.load(t, "trains 3 2 1; hub 4;");
        checks.same("4: an error", t.errorOffset(), 18);
        checks.answers("4: a call that throws", ARGUMENT, () -> t.load(1));
        checks.same("4: it stays", t.errorOffset(), 18);
        t.auto(1);
        t.undo();
        checks.same("4: undo does not affect it", t.errorOffset(), 18);
        Checks.load(t, "trains 3 2 1;");
        checks.same("4: none", t.errorOffset(), -1);
        t.load(0);
        checks.same("4: the empty text", t.errorOffset(), 0);
    }

    private static void statePromise() {
        HubTrains t = Checks.loaded(DOUBLES);
        checks.same("5: dealt", states(t), "3 2 4 3 0 0 -1 1 0 0 2 0 1");
        t.play(13, 2);
        checks.same("5: the next player", states(t), "3 2 4 3 1 0 -1 1 0 0 3 0 1");
        t.play(12, 2);
        t.play(2, 2);
        t.play(23, 1);
        t.play(0, 2);
        checks.same("5: a double lies uncovered", states(t), "3 2 4 3 0 0 2 1 0 0 0 0 1");
        t.draw();
        checks.same("5: drawn", states(t), "3 2 4 3 0 1 2 0 0 0 1 0 1");
        t.play(1, 2);
        checks.same("5: covered", states(t), "3 2 4 3 1 0 -1 0 0 0 1 0 1");
        t.play(22, 1);
        t.pass();
        checks.same("5: passed", states(t), "3 2 4 3 0 0 1 0 0 0 0 1 1");
        t.pass();
        checks.same("5: over by passes", states(t), "3 2 4 3 0 0 1 0 1 1 0 2 1");
        HubTrains last = played("trains 3 2 1; give 0 0-3; give 1 2-3; seed 7;", 3, 2);
        checks.same("5: over by a play", states(last).startsWith("3 2 1 3 0 0 -1 7 1 1 0 0 "), true);
        checks.answers("5: below", ARGUMENT, () -> t.state(-1));
        checks.answers("5: above", ARGUMENT, () -> t.state(13));
        checks.answers("5: far below", ARGUMENT, () -> t.state(MIN));
        checks.answers("5: far above", ARGUMENT, () -> t.state(MAX));
        aRoundToItsEnd();
    }

    private static void aRoundToItsEnd() {
        HubTrains t = Checks.loaded("trains 3 2 4; hub 0; give 0 1-1 2-2 1-2 2-3; give 1 0-3 3-3 1-3 0-2;");
        checks.same("5: the stock is 01", t.draw(), 1);
        t.play(1, 0);
        t.play(2, 1);
        t.play(12, 0);
        checks.same("5: player 1", t.state(4) + " " + t.state(10), "1 1");
        t.play(3, 2);
        t.play(23, 0);
        t.play(33, 2);
        t.play(13, 2);
        checks.same("5: the hand is empty", states(t), "3 2 4 0 1 0 -1 0 1 1 0 0 1");
        checks.same("23: player 0 is on turn then", t.deal(1, 1) + " " + t.state(4), "1 0");
    }

    private static void playerPromise() {
        HubTrains t = Checks.loaded(ROWS);
        checks.same("6: tiles", t.player(0, 0) + " " + t.player(1, 0), "4 4");
        checks.same("6: pips", t.player(0, 1) + " " + t.player(1, 1), "10 12");
        checks.same("6: totals", t.player(0, 2) + " " + t.player(1, 2), "0 0");
        checks.same("6: a tile that fits twice counts once", t.player(0, 3), 1);
        checks.same("6: not on turn", t.player(1, 3), 0);
        t.play(3, 0);
        checks.same("6: on turn", t.player(0, 3) + " " + t.player(1, 3), "0 2");
        checks.same("6: behind a play", t.player(0, 0) + " " + t.player(0, 1), "3 7");
        HubTrains over = played("trains 3 2 1; give 0 0-3; give 1 2-3; seed 7;", 3, 0);
        checks.same("6: totals of a round", over.player(0, 2) + " " + over.player(1, 2), "0 5");
        checks.same("6: nothing can be played", over.player(0, 3) + " " + over.player(1, 3), "0 0");
        over.deal(3, 1);
        over.auto(200);
        int inHand = over.player(1, 1);
        checks.same("6: totals add up", over.player(1, 2), 5 + inHand);
        checks.answers("6: no such player", INDEX, () -> t.player(2, 0));
        checks.answers("6: negative player", INDEX, () -> t.player(-1, 0));
        checks.answers("6: the player first", INDEX, () -> t.player(2, 4));
        checks.answers("6: above", ARGUMENT, () -> t.player(1, 4));
        checks.answers("6: below", ARGUMENT, () -> t.player(0, -1));
        checks.answers("6: a fourth player", 12, () -> Checks.loaded("trains 9 4 12;").player(3, 0));
    }

    private static void tilePromise() {
        HubTrains t = Checks.loaded(ROWS);
        checks.same("7: in order", hand(t, 0), "1 3 11 22");
        checks.same("7: in order", hand(t, 1), "0 12 13 23");
        checks.answers("7: not so many", ELEMENT, () -> t.tile(0, 4));
        checks.answers("7: negative", ELEMENT, () -> t.tile(0, -1));
        checks.answers("7: far", ELEMENT, () -> t.tile(0, MAX));
        checks.answers("7: no such player", INDEX, () -> t.tile(2, 0));
        checks.answers("7: the player first", INDEX, () -> t.tile(-1, 9));
        t.play(3, 0);
        checks.same("7: behind a play", hand(t, 0), "1 11 22");
        HubTrains drawing = new HubTrains();
        drawing.draw();
        checks.same("7: behind a draw", hand(drawing, 0), "0 2");
    }

    private static void trainPromise() {
        HubTrains t = Checks.loaded(THREE);
        checks.same("8: empty", trainNumbers(t, 0), "0 0 0 -1 0");
        checks.same("8: the public one", trainNumbers(t, 3), "0 0 1 -1 0");
        t.pass();
        checks.same("8: open behind a pass", trainNumbers(t, 0), "0 0 1 -1 0");
        t.play(1, 0);
        checks.same("8: open behind the play of another", trainNumbers(t, 0), "1 1 1 1 1");
        t.play(2, 3);
        checks.same("8: the public one", trainNumbers(t, 3), "1 2 1 2 2");
        t.play(12, 0);
        checks.same("8: closed behind the own play", trainNumbers(t, 0), "2 2 0 12 4");
        checks.answers("8: no such train", INDEX, () -> t.train(4, 0));
        checks.answers("8: negative train", INDEX, () -> t.train(-1, 0));
        checks.answers("8: the train first", INDEX, () -> t.train(4, 5));
        checks.answers("8: above", ARGUMENT, () -> t.train(3, 5));
        checks.answers("8: below", ARGUMENT, () -> t.train(0, -1));
        checks.answers("8: the fifth train", 1, () -> Checks.loaded("trains 9 4 12;").train(4, 2));
        checks.same("8: the end is the hub", Checks.loaded("trains 5 2 1; hub 4;").train(1, 1), 4);
    }

    private static void laidPromise() {
        HubTrains t = played(DOUBLES, 13, 2, 12, 2, 2, 2, 23, 1, 0, 2);
        checks.same("9: the public one", t.laid(2, 0) + " " + t.laid(2, 1) + " " + t.laid(2, 2) + " " + t.laid(2, 3),
                "13 12 2 0");
        checks.same("9: another one", t.laid(1, 0), 23);
        checks.answers("9: an empty one", ELEMENT, () -> t.laid(0, 0));
        checks.answers("9: not so many", ELEMENT, () -> t.laid(2, 4));
        checks.answers("9: negative", ELEMENT, () -> t.laid(2, -1));
        checks.answers("9: far", ELEMENT, () -> t.laid(2, MIN));
        checks.answers("9: no such train", INDEX, () -> t.laid(3, 0));
        checks.answers("9: the train first", INDEX, () -> t.laid(-1, -1));
    }

    private static void whyPromise() {
        HubTrains t = Checks.loaded(ROWS);
        checks.same("10: own", t.why(3, 0), 0);
        checks.same("10: public", t.why(3, 2), 0);
        checks.same("10: of the other", t.why(13, 0), 2);
        checks.same("10: in the middle", t.why(33, 1), 2);
        checks.same("10: in the stock", t.why(2, 1), 2);
        checks.same("10: closed", t.why(3, 1), 4);
        checks.same("10: closed before it fits", t.why(1, 1), 4);
        checks.same("10: does not fit", t.why(1, 0) + " " + t.why(22, 2), "5 5");
        checks.answers("10: no such train", INDEX, () -> t.why(3, 3));
        checks.answers("10: negative train", INDEX, () -> t.why(3, -1));
        checks.answers("10: the train first", INDEX, () -> t.why(44, 3));
        for (int tile : new int[] {-1, -11, 10, 21, 32, 4, 34, 44, 99, 100, 111, MIN, MAX}) {
            checks.answers("10: no tile " + tile, ARGUMENT, () -> t.why(tile, 0));
        }
        HubTrains doubles = played(DOUBLES, 13, 2, 12, 2, 2, 2, 23, 1, 0, 2);
        checks.same("10: another train than that of the double", doubles.why(11, 0) + " " + doubles.why(11, 1), "3 3");
        checks.same("10: that train", doubles.why(11, 2), 5);
        doubles.draw();
        checks.same("10: it fits", doubles.why(1, 2), 0);
        doubles.play(1, 2);
        doubles.play(22, 1);
        doubles.pass();
        checks.same("10: a train of another with the double", doubles.why(11, 1) + " " + doubles.why(11, 0), "5 3");
        doubles.pass();
        checks.same("10: over", doubles.why(11, 1) + " " + doubles.why(0, 0), "1 1");
        HubTrains three = Checks.loaded(THREE);
        three.pass();
        checks.same("10: an open one", three.why(1, 0) + " " + three.why(1, 2), "0 4");
    }

    private static void bestPromise() {
        HubTrains t = Checks.loaded(ROWS);
        checks.same("11: of equal ranks the smallest train", t.best(), 30);
        t.play(3, 0);
        checks.same("11: the most pips", t.best(), 231);
        checks.same("11: of equal ranks the smallest tile", Checks.loaded(ROWS + "rank 5;").best(), 30);
        HubTrains least = played(ROWS + "rank 0-pips;", 3, 0);
        checks.same("11: a negative rank", least.best(), 131);
        HubTrains open = played(ROWS + "rank public*100+pips;", 3, 0);
        checks.same("11: by the train", open.best(), 232);
        HubTrains own = Checks.loaded(THREE + "rank (1-own)*pips;");
        own.pass();
        checks.same("11: on the open one", own.best(), 10);
        checks.same("11: none", Checks.loaded(THREE).best(), -1);
        checks.same("11: over", played("trains 3 2 1; give 0 0-3; give 1 2-3;", 3, 0).best(), -1);
        checks.same("11: the smallest tile before the smallest train",
                played(ROWS + "rank 1-own;", 3, 0).best(), 132);
    }

    private static void rank(String expression, int due) {
        checks.answers("12: rank " + expression, due,
                () -> Checks.loaded(ROWS + " rank " + expression + " ;").rank(3, 0));
    }

    private static void rankPromise() {
        rank("pips", 3);
        rank("double", 0);
        rank("own", 1);
        rank("public", 0);
        rank("left", 3);
        rank("2+3*4", 14);
        rank("(2+3)*4", 20);
        rank("10-3-2", 5);
        rank("10-(3-2)", 9);
        rank("100/7/2", 7);
        rank("100/(7/2)", 33);
        rank("7*3/2", 10);
        rank("7/2*3", 9);
        rank("(0-7)/2", -3);
        rank("7/(0-2)", -3);
        rank("7/0", 0);
        rank("7/0+5", 5);
        rank("0/0", 0);
        rank("9999*9999", 1000000);
        rank("0-9999*9999", -1000000);
        rank("(0-9999)*9999-1", -1000000);
        rank("9999*9999/9999", 100);
        rank("9999*9999+1-1", 999999);
        rank("9999*9999*(0-9999*9999)", -1000000);
        rank("9999*100+100", 1000000);
        rank("9999*100+101-1", 999999);
        rank("1000*1000", 1000000);
        rank("1-2*3+4*(5-pips)/2-left*own", -4);
        rank("((((1+pips))))*((2))", 8);
        rank("1+(2*(3+(4*(pips+1))))", 39);
        HubTrains t = Checks.loaded(ROWS + "rank 10*own+public;");
        checks.same("12: trains", t.rank(3, 0) + " " + t.rank(3, 2), "10 1");
        HubTrains doubles = played(DOUBLES + "rank double*100+left*10+pips;", 13, 2, 12, 2, 2, 2, 23, 1);
        checks.same("12: a double", doubles.rank(0, 2), 110);
        checks.same("12: without a statement the pips", Checks.loaded(ROWS).rank(3, 2), 3);
        HubTrains three = Checks.loaded(THREE + "rank own*2+public;");
        three.pass();
        checks.same("12: an open one of another is neither",
                three.rank(1, 0) + " " + three.rank(1, 1) + " " + three.rank(1, 3), "0 2 1");
        checks.answers("12: no such train", INDEX, () -> t.rank(3, 3));
        checks.answers("12: the train first", INDEX, () -> t.rank(44, -1));
        checks.answers("12: no such tile", ARGUMENT, () -> t.rank(44, 0));
        checks.answers("12: the tile then", ARGUMENT, () -> t.rank(10, 1));
        checks.answers("12: closed", ELEMENT, () -> t.rank(3, 1));
        checks.answers("12: does not fit", ELEMENT, () -> t.rank(1, 0));
        checks.answers("12: not in the hand", ELEMENT, () -> t.rank(13, 0));
        checks.answers("12: over", ELEMENT, () -> played("trains 3 2 1; give 0 0-3; give 1 2-3;", 3, 0).rank(23, 0));
    }

    private static void longestPromise() {
        HubTrains t = Checks.loaded(ROWS);
        checks.same("13: of the player on turn", t.longest(0), 3);
        checks.same("13: of the other", t.longest(1), 3);
        t.play(3, 0);
        checks.same("13: from the new end", t.longest(0), 2);
        HubTrains none = Checks.loaded(THREE);
        checks.same("13: none", none.longest(0), 0);
        checks.same("13: with doubles", none.longest(1), 3);
        HubTrains over = played("trains 3 2 1; give 0 0-3; give 1 2-3;", 3, 0);
        checks.same("13: of an empty hand", over.longest(0), 0);
        checks.same("13: when it is over", over.longest(1), 1);
        checks.same("13: 12 tiles", Checks.loaded(TWELVE + "2-4;").longest(0), 12);
        checks.same("13: all but one of 12", Checks.loaded(TWELVE + "2-3;").longest(0), 11);
        HubTrains large = largeHand();
        checks.same("13: 13 tiles", large.player(0, 0) + " " + large.longest(0), "13 -2");
        checks.same("13: another hand", large.longest(1), 0);
        checks.answers("13: no such player", INDEX, () -> t.longest(2));
        checks.answers("13: negative player", INDEX, () -> t.longest(-1));
        checks.answers("13: far", INDEX, () -> t.longest(MAX));
    }

    private static void longestTilePromise() {
        HubTrains t = Checks.loaded(ROWS);
        checks.same("14: the only one", row(t, 0), "3 1 11");
        checks.same("14: the first one", row(t, 1), "13 12 23");
        checks.same("14: the first of many", row(Checks.loaded(TWELVE + "2-3;"), 0), "4 0 1 11 12 22 2 3 33 13 14");
        checks.answers("14: not so many", ELEMENT, () -> t.longestTile(0, 3));
        checks.answers("14: negative", ELEMENT, () -> t.longestTile(0, -1));
        checks.answers("14: far", ELEMENT, () -> t.longestTile(0, MAX));
        checks.answers("14: none", ELEMENT, () -> Checks.loaded(THREE).longestTile(0, 0));
        checks.answers("14: 13 tiles", ELEMENT, () -> largeHand().longestTile(0, 0));
        checks.answers("14: no such player", INDEX, () -> t.longestTile(2, 0));
        checks.answers("14: the player first", INDEX, () -> t.longestTile(-1, 99));
    }

    private static void heaviestPromise() {
        HubTrains t = Checks.loaded(ROWS);
        checks.same("15: of the longest", t.heaviest(0) + " " + t.heaviest(1), "6 12");
        HubTrains other = Checks.loaded("trains 9 2 5; hub 0; give 0 0-1 1-2 2-2 0-9 9-9;");
        checks.same("15: not of the longest", other.longest(0) + " " + other.heaviest(0), "3 27");
        checks.same("15: none", Checks.loaded(THREE).heaviest(0), 0);
        checks.same("15: 13 tiles", largeHand().heaviest(0), -2);
        checks.answers("15: no such player", INDEX, () -> t.heaviest(2));
        checks.answers("15: negative player", INDEX, () -> t.heaviest(-1));
    }

    private static void winnerPromise() {
        HubTrains t = Checks.loaded(ROWS);
        long before = t.checksum();
        HubTrains on = Checks.loaded(ROWS);
        on.auto(200);
        int due = on.player(1, 1) < on.player(0, 1) ? 1 : 0;
        checks.same("16: foretold", t.winner(), due);
        checks.same("16: nothing changes", t.checksum(), before);
        checks.same("16: nothing to undo but the load", t.undo(), 0);
        HubTrains over = played("trains 3 2 1; give 0 0-3; give 1 2-3;", 3, 0);
        checks.same("16: over", over.winner(), 0);
        HubTrains second = Checks.loaded("trains 3 2 4; hub 0; give 0 2-2 2-3 3-3 1-2; give 1 0-1 1-1 1-3 0-3;");
        second.auto(200);
        checks.same("16: the second", second.player(1, 1) < second.player(0, 1), true);
        checks.same("16: the second", second.winner(), 1);
        HubTrains three = Checks.loaded(THREE);
        checks.same("16: three hands", three.winner(), winnerByAuto(three));
        checks.same("16: by a rank", Checks.loaded(ROWS + "rank 0-pips;").winner(),
                winnerByAuto(Checks.loaded(ROWS + "rank 0-pips;")));
    }

    private static int winnerByAuto(HubTrains t) {
        t.auto(200);
        int winner = 0;
        for (int p = 1; p < t.state(1); p++) {
            winner = t.player(p, 1) < t.player(winner, 1) ? p : winner;
        }
        return winner;
    }

    private static void stepsToEndPromise() {
        HubTrains one = Checks.loaded("trains 3 2 1; give 0 0-3; give 1 2-3;");
        checks.same("17: one play", one.stepsToEnd(), 1);
        long before = one.checksum();
        one.stepsToEnd();
        checks.same("17: nothing changes", one.checksum(), before);
        one.play(3, 0);
        checks.same("17: over", one.stepsToEnd(), 0);
        HubTrains doubles = played(DOUBLES, 13, 2, 12, 2, 2, 2, 23, 1, 0, 2);
        checks.same("17: draw, play, play, pass, pass", doubles.stepsToEnd(), 5);
        HubTrains t = Checks.loaded("trains 9 4 12; rank left*pips;");
        int steps = t.stepsToEnd();
        checks.same("17: as many as auto makes", t.auto(200), steps);
        checks.same("17: by the rank", Checks.loaded(ROWS).stepsToEnd(), Checks.loaded(ROWS).auto(200));
    }

    private static void meanPipsPromise() {
        checks.same("18: a mean", Checks.loaded(ROWS).meanPips(), 22.0 / 8.0);
        checks.same("18: not rounded", Checks.loaded("trains 3 2 2; give 0 0-0 0-1; give 1 0-2 2-2;").meanPips(), 1.75);
        checks.same("18: a third", played(ROWS, 3, 0, 23, 1).meanPips(), 14.0 / 6.0);
        checks.same("18: 0 pips", played("trains 3 2 1; give 0 0-3; give 1 0-0;", 3, 0).meanPips(), 0.0);
        HubTrains none = played("trains 3 2 1; give 0 0-3; give 1 0-1;", 3, 0);
        checks.same("18: one hand", none.meanPips(), 1.0);
        emptyHands();
    }

    /** Player 0 has all 9 tiles; that the hand of the other is empty does not end the round. */
    private static void emptyHands() {
        HubTrains t = Checks.loaded("trains 3 2 9;");
        checks.same("19: all tiles", t.player(0, 0) + " " + t.player(1, 0) + " " + t.state(7), "9 0 0");
        for (int tile : new int[] {3, 0, 1, 11, 12, 22, 2}) {
            t.play(tile, 0);
            if (tile / 10 != tile % 10) {
                checks.same("21: an empty hand passes", t.pass() + " " + t.state(8), "0 0");
            }
        }
        checks.same("19: the public one", t.play(13, 2), 1);
        t.pass();
        checks.same("18: one tile", t.meanPips(), 5.0);
        checks.same("19: the last on the open one of the other", t.play(23, 1) + " " + t.state(8), "2 1");
        checks.same("18: no tiles", t.meanPips(), 0.0);
        checks.same("16: of empty hands the first", t.winner(), 0);
        HubTrains last = alone(3, 0, 1, 11, 12, 22, 23, 13);
        checks.same("18: the last tile", last.meanPips(), 2.0);
        checks.same("21: all passed", last.pass() + " " + last.state(8) + " " + last.state(11), "0 1 2");
        checks.same("16: an empty hand has the fewest pips", last.winner(), 1);
    }

    private static void playPromise() {
        HubTrains t = Checks.loaded(DOUBLES);
        checks.same("19: returns the end", t.play(13, 2), 1);
        checks.same("19: the hand", hand(t, 0), "0 2 11");
        checks.same("19: on its own one", t.play(23, 1), 2);
        checks.same("19: a double", t.play(11, 2), 1);
        checks.same("19: stays on turn", t.state(4) + " " + t.state(6), "0 2");
        checks.same("19: a draw counts anew behind a double", t.state(5) + " " + t.draw(), "0 1");
        checks.same("19: covered", t.play(1, 2) + " " + t.state(6) + " " + t.state(4), "0 -1 1");
        coverOnTheTrainOfAnother();
        doubleAsTheLast();
        drawnThenDouble();
        HubTrains wrong = Checks.loaded(ROWS);
        long before = wrong.checksum();
        checks.answers("19: no such train", INDEX, () -> wrong.play(3, 3));
        checks.answers("19: the train first", INDEX, () -> wrong.play(44, -1));
        checks.answers("19: no such tile", ARGUMENT, () -> wrong.play(44, 0));
        checks.answers("19: no such code", ARGUMENT, () -> wrong.play(30, 0));
        checks.answers("19: closed", STATE, () -> wrong.play(3, 1));
        checks.answers("19: does not fit", STATE, () -> wrong.play(1, 0));
        checks.answers("19: not in the hand", STATE, () -> wrong.play(23, 0));
        checks.same("19: nothing changes", wrong.checksum(), before);
        checks.same("19: no change to undo but the load", wrong.undo(), 0);
    }

    /** Who leaves a double on the own train passes, which opens it; the next one has to cover it there. */
    private static void coverOnTheTrainOfAnother() {
        HubTrains t = Checks.loaded("trains 3 3 3; hub 0; give 0 0-1 1-1 3-3; give 1 1-2 2-2 0-3; give 2 0-2 1-3 2-3;");
        t.play(1, 0);
        t.play(3, 1);
        t.play(2, 3);
        t.play(11, 0);
        checks.same("19: uncovered on the own one", t.state(6) + " " + t.state(4) + " " + t.state(10), "0 0 0");
        checks.same("19: the next", t.pass(), 1);
        checks.same("19: only there", t.state(10) + " " + t.why(12, 0) + " " + t.why(12, 3), "1 0 3");
        checks.same("19: covered", t.play(12, 0), 2);
        checks.same("19: it stays open", t.train(0, 2) + " " + t.state(6), "1 -1");
    }

    private static void doubleAsTheLast() {
        HubTrains t = played("trains 3 2 2; hub 0; give 0 0-3 3-3; give 1 0-1 1-2;", 3, 0, 1, 1);
        checks.same("19: the last tile is a double", t.play(33, 0), 3);
        checks.same("19: over", states(t).startsWith("3 2 2 0 0 0 0 5 1 1 0 0 "), true);
        checks.same("19: totals", t.player(0, 2) + " " + t.player(1, 2), "0 3");
        checks.answers("19: over", STATE, () -> t.play(12, 1));
    }

    private static void drawnThenDouble() {
        HubTrains t = Checks.loaded("trains 3 2 4; hub 0; give 0 1-1 2-2 1-2 2-3; give 1 0-3 3-3 1-3 0-2;");
        t.draw();
        t.play(1, 2);
        checks.same("19: the next did not draw", t.state(5), 0);
        HubTrains two = played("trains 3 2 4; hub 0; give 0 2-2 3-3 2-3 0-2; give 1 0-1 0-3 1-2 1-3;", 2, 2, 12, 2);
        checks.same("19: a double is drawn", two.draw() + " " + two.state(5), "11 1");
        two.play(11, 2);
        checks.same("19: behind it the player did not draw", two.state(4) + " " + two.state(5), "0 0");
    }

    private static void drawPromise() {
        HubTrains t = new HubTrains();
        checks.same("20: the first of the stock", t.draw(), 0);
        checks.same("20: drawn", t.state(5) + " " + t.state(7) + " " + t.player(0, 0), "1 6 2");
        checks.answers("20: twice", STATE, () -> t.draw());
        t.pass();
        checks.same("20: the second", t.draw(), 3);
        checks.same("20: passes start anew", t.state(11), 0);
        checks.answers("20: there is a play", STATE, () -> Checks.loaded(ROWS).draw());
        checks.answers("20: the stock is empty", STATE, () -> Checks.loaded(THREE).draw());
        HubTrains over = played("trains 3 2 1; give 0 0-3; give 1 1-2;", 3, 0);
        checks.answers("20: over", STATE, () -> over.draw());
        HubTrains wrong = Checks.loaded(ROWS);
        checks.answers("20: a draw that throws", STATE, () -> wrong.draw());
        checks.same("20: is no change", wrong.undo(), 0);
    }

    private static void passPromise() {
        HubTrains t = Checks.loaded(THREE);
        checks.same("21: the next", t.pass(), 1);
        checks.same("21: the own train is open", t.train(0, 2) + " " + t.state(11), "1 1");
        checks.answers("21: there is a play", STATE, () -> t.pass());
        HubTrains stock = new HubTrains();
        checks.answers("21: there is a stock", STATE, () -> stock.pass());
        stock.draw();
        checks.same("21: drawn", stock.pass(), 1);
        HubTrains doubles = played(DOUBLES, 13, 2, 12, 2, 2, 2, 23, 1, 0, 2);
        doubles.draw();
        doubles.play(1, 2);
        doubles.play(22, 1);
        checks.same("21: behind the last player 0", doubles.pass(), 0);
        checks.same("21: an uncovered double stays so", doubles.state(6), 1);
        checks.same("21: all passed", doubles.pass() + " " + doubles.state(8) + " " + doubles.state(4), "0 1 0");
        checks.same("21: all are open", doubles.train(0, 2) + " " + doubles.train(1, 2), "1 1");
        checks.same("21: totals", doubles.player(0, 2) + " " + doubles.player(1, 2), "2 3");
        checks.answers("21: over", STATE, () -> doubles.pass());
    }

    private static void autoPromise() {
        HubTrains t = played(DOUBLES, 13, 2, 12, 2, 2, 2, 23, 1, 0, 2);
        checks.same("22: a draw", t.auto(1) + " " + t.state(5), "1 1");
        checks.same("22: a play", t.auto(1) + " " + t.laid(2, 4), "1 1");
        checks.same("22: a play and a pass", t.auto(2) + " " + t.laid(1, 1) + " " + t.state(11), "2 22 1");
        checks.same("22: one change", t.undo() + " " + t.state(10), "7 1");
        checks.same("22: until it is over", t.auto(200) + " " + t.state(8), "3 1");
        checks.same("22: none", t.auto(1), 0);
        checks.same("22: a change all the same", t.undo() + " " + t.state(8), "7 1");
        checks.answers("22: 0 steps", ARGUMENT, () -> t.auto(0));
        checks.answers("22: 201 steps", ARGUMENT, () -> t.auto(201));
        checks.answers("22: negative", ARGUMENT, () -> t.auto(-1));
        checks.answers("22: far", ARGUMENT, () -> t.auto(MIN));
        HubTrains ranked = Checks.loaded(ROWS + "rank public;");
        ranked.auto(1);
        checks.same("22: by the rank", ranked.train(2, 3) + " " + ranked.train(0, 3), "3 -1");
    }

    private static void dealPromise() {
        HubTrains t = played("trains 3 2 1; give 0 0-3; give 1 2-3; rank 7;", 3, 0);
        checks.same("23: stock", t.deal(3, 1), 7);
        checks.same("23: states", states(t), "3 2 1 3 0 0 -1 7 0 1 0 0 -1661227463");
        checks.same("23: without tiles that are given", hand(t, 0) + " " + hand(t, 1), "2 11");
        checks.same("23: trains", trainNumbers(t, 0) + ", " + trainNumbers(t, 2), "0 3 0 -1 0, 0 3 1 -1 0");
        checks.same("23: totals stay", t.player(0, 2) + " " + t.player(1, 2), "0 5");
        checks.answers("23: not over", STATE, () -> t.deal(0, 0));
        checks.answers("23: the hub first", ARGUMENT, () -> t.deal(4, 0));
        checks.answers("23: negative hub", ARGUMENT, () -> t.deal(-1, 0));
        checks.answers("23: the seed first", ARGUMENT, () -> t.deal(0, 10000));
        checks.answers("23: negative seed", ARGUMENT, () -> t.deal(0, -1));
        t.auto(200);
        checks.same("23: another hub", t.deal(0, 9999) + " " + t.state(3) + " " + t.train(1, 1), "7 0 0");
        checks.same("23: the expression stays", t.best() < 0 || t.rank(t.best() / 10, t.best() % 10) == 7, true);
        HubTrains open = Checks.loaded(THREE);
        open.auto(200);
        open.deal(0, 5);
        checks.same("23: trains are closed", trainNumbers(open, 0), "0 0 0 -1 0");
        checks.same("23: trains are closed", trainNumbers(open, 1), "0 0 0 -1 0");
        checks.same("23: the public one is open", trainNumbers(open, 3), "0 0 1 -1 0");
        checks.same("23: rounds", open.state(9), 1);
        HubTrains doubles = played(DOUBLES, 13, 2, 12, 2, 2, 2, 23, 1, 0, 2);
        doubles.auto(5);
        checks.same("23: over by passes", doubles.state(6) + " " + doubles.state(11), "1 2");
        doubles.deal(2, 1);
        checks.same("23: nothing is left of it",
                doubles.state(6) + " " + doubles.state(11) + " " + doubles.state(8), "-1 0 0");
        HubTrains large = Checks.loaded("trains 9 4 12; seed 3;");
        large.auto(200);
        checks.same("23: the greatest number", large.deal(9, 9999), 6);
        checks.same("23: hand 0", hand(large, 0), "13 18 22 27 33 36 47 49 55 77 78 88");
    }

    private static void undoPromise() {
        HubTrains t = new HubTrains();
        long[] sums = new long[12];
        sums[0] = t.checksum();
        Checks.load(t, DOUBLES);
        sums[1] = t.checksum();
        int[] plays = {13, 2, 12, 2, 2, 2, 23, 1, 0, 2};
        for (int k = 0; k < 5; k++) {
            t.play(plays[2 * k], plays[2 * k + 1]);
            sums[2 + k] = t.checksum();
        }
        t.draw();
        sums[7] = t.checksum();
        t.auto(2);
        sums[8] = t.checksum();
        t.pass();
        sums[9] = t.checksum();
        t.pass();
        sums[10] = t.checksum();
        t.deal(1, 1);
        for (int k = 7; k >= 0; k--) {
            checks.same("24: changes that can still be undone", t.undo(), k);
            checks.same("24: the data then", t.checksum(), sums[3 + k]);
        }
        checks.same("24: none", t.undo(), -1);
        checks.same("24: nothing changes then", t.checksum(), sums[3]);
        undoAndGoOn();
        undoOfLoad();
    }

    /** A change that was undone makes none final. */
    private static void undoAndGoOn() {
        HubTrains t = played("trains 3 2 1; give 0 0-3; give 1 2-3;", 3, 0);
        for (int k = 0; k < 5; k++) {
            t.auto(1);
        }
        checks.same("24: 7 changes", t.undo(), 6);
        t.auto(1);
        t.auto(1);
        checks.same("24: 8 changes", t.undo(), 7);
        t.auto(1);
        t.auto(1);
        checks.same("24: the load is final", t.undo(), 7);
        for (int k = 6; k >= 0; k--) {
            checks.same("24: changes", t.undo(), k);
        }
        checks.same("24: before the play", t.state(8) + " " + t.undo(), "0 -1");
    }

    private static void undoOfLoad() {
        HubTrains t = new HubTrains();
        long before = t.checksum();
        Checks.load(t, ROWS + "rank 9;");
        Checks.append(t, "trains 3 2 1; ");
        checks.same("24: a load", t.undo() + " " + t.checksum(), "0 " + before);
        checks.same("24: the buffer stays", t.load(14), 7);
        Checks.load(t, ROWS + "rank 9;");
        Checks.load(t, ROWS + "rank 8;");
        checks.same("24: the expression", t.rank(3, 0), 8);
        t.undo();
        checks.same("24: the expression before", t.rank(3, 0), 9);
        Checks.load(t, ROWS);
        checks.same("24: no expression", t.rank(3, 0), 3);
        t.undo();
        checks.same("24: an expression again", t.rank(3, 0), 9);
        Checks.load(t, "x");
        checks.same("24: an error is no change", t.undo(), 1);
    }

    private static long sumOf(HubTrains t) {
        long sum = 0;
        for (int what = 0; what <= 12; what++) {
            sum = 31 * sum + t.state(what);
        }
        for (int p = 0; p < t.state(1); p++) {
            for (int what = 0; what <= 3; what++) {
                sum = 31 * sum + t.player(p, what);
            }
            for (int k = 0; k < t.player(p, 0); k++) {
                sum = 31 * sum + t.tile(p, k);
            }
        }
        for (int train = 0; train <= t.state(1); train++) {
            for (int what = 0; what <= 4; what++) {
                sum = 31 * sum + t.train(train, what);
            }
        }
        return sum;
    }

    private static void checksumPromise() {
        checks.same("25: of a new object", new HubTrains().checksum(), sumOf(new HubTrains()));
        HubTrains t = played(DOUBLES, 13, 2, 12, 2, 2, 2, 23, 1, 0, 2);
        checks.same("25: of a round", t.checksum(), sumOf(t));
        HubTrains four = Checks.loaded("trains 9 4 12; seed 77;");
        checks.same("25: of four hands", four.checksum(), sumOf(four));
        four.auto(40);
        checks.same("25: later", four.checksum(), sumOf(four));
        long once = four.checksum();
        checks.same("25: the same again", four.checksum(), once);
    }
}
