/** The sentences of the document on the input buffer, the setup text and its errors, with a test for each boundary. */
public final class SetupTest extends Scenes {
    private static final Checks checks = new Checks("SetupTest");
    private static final int SYNTAX = HubTrains.SYNTAX_ERROR;
    private static final int RANGE = HubTrains.OUT_OF_RANGE;
    private static final int REPEATED = HubTrains.REPEATED;
    private static final int MANY = HubTrains.TOO_MANY;
    private static final int DEEP = HubTrains.TOO_DEEP;
    private static final int[] BLANKS = {0, 1, 8, 9, 10, 11, 12, 13, 31, 33, 127, 128, 160, 255};
    /** Each kind of statement, token and factor. */
    private static final String ALL = "trains 3 2 2;hub 1;seed 42;give 0 0-0 3-1;give 1 2-3;"
            + "rank pips*(2+double)-own/(public+left)*10;";

    public static void main(String[] args) {
        appendCountsTo500();
        appendTakesTheMostSignificantByteFirst();
        aBufferOf500IsFull();
        theLengthToRead();
        onlyTheFirstBytesAreRead();
        theBufferIsEmptyAfterwards();
        anErrorLeavesTheOtherData();
        anEmptyText();
        aTextOf500Bytes();
        runsOfDigits();
        valuesThatWouldWrap();
        runsOfLetters();
        spacesBeforeAnyToken();
        noSpacesAtAll();
        noOtherByteSeparates();
        bytesBesideDigitsAndLetters();
        theGreatestNumber();
        thePlayers();
        theHandSize();
        theHub();
        theHubWithoutAStatement();
        theSeed();
        theSeedWithoutAStatement();
        thePlayerOfAGive();
        theNumbersOfATile();
        aNumberAsAFactor();
        statementsOnceEach();
        noHubBehindAGive();
        statementsInAnyOrder();
        givesSeveralTimes();
        parenthesesFourDeep();
        parenthesesFiveDeep();
        tokensThatAreNotAllowed();
        theTextEndsTooEarly();
        tilesThatAreGivenAlready();
        theDoubleOfTheHub();
        moreThanTheHandSize();
        anErrorWithinATile();
        theFirstOfSeveralErrors();
        severalKindsAtOneOffset();
        theErrorOffset();
        eachByteAtEachOffset();
        theSetupIsTakenOver();
        checks.end();
    }

    private static void error(String text, int code, int offset) {
        HubTrains t = new HubTrains();
        checks.same("load of <" + text + ">", Checks.load(t, text) + " at " + t.errorOffset(), code + " at " + offset);
    }

    private static void fine(String text) {
        HubTrains t = new HubTrains();
        int stock = Checks.load(t, text);
        checks.same("load of <" + text + "> finds an error", (stock < 0) + " at " + t.errorOffset(), "false at -1");
    }

    private static String blanks(int count) {
        return " ".repeat(count);
    }

    private static void appendCountsTo500() {
        HubTrains t = new HubTrains();
        for (int length = 20; length <= 500; length += 20) {
            checks.same("the new length", t.append(0, 0, 0, 0, 0), length);
        }
        checks.same("520 bytes", t.append(0, 0, 0, 0, 0), -1);
        checks.same("520 bytes again", t.append(0, 0, 0, 0, 0), -1);
    }

    private static void appendTakesTheMostSignificantByteFirst() {
        HubTrains t = new HubTrains();
        t.append(0x74726169, 0x6e732033, 0x20322031, 0x3b72616e, 0x6b20373b);
        checks.same("trains 3 2 1;rank 7;", t.load(20), 7);
        for (int at = 0; at < 20; at++) {
            int[] w = Checks.words("trains 3 2 1;rank 7;").get(0);
            w[at / 4] |= 0x80 << 8 * (3 - at % 4);
            HubTrains high = new HubTrains();
            high.append(w[0], w[1], w[2], w[3], w[4]);
            boolean inWord = at < 6 || at > 13 && at < 17;
            int due = !inWord ? at : at == 0 || at == 13 ? at : at < 6 ? 0 : 13;
            checks.same("a byte above 127 at " + at, high.load(20) + " at " + high.errorOffset(), SYNTAX + " at " + due);
        }
    }

    private static void aBufferOf500IsFull() {
        HubTrains t = new HubTrains();
        Checks.append(t, "trains 3 2 1;" + blanks(487));
        checks.same("nothing is appended", t.append(-1, -1, -1, -1, -1), -1);
        checks.answers("not 501 bytes", ARGUMENT, () -> t.load(501));
        checks.answers("not 520 bytes", ARGUMENT, () -> t.load(520));
        checks.same("the text is unchanged", t.load(500), 7);
        checks.same("it is empty then", t.append(0, 0, 0, 0, 0), 20);
    }

    private static void theLengthToRead() {
        HubTrains t = new HubTrains();
        checks.answers("-1 of 0", ARGUMENT, () -> t.load(-1));
        checks.answers("1 of 0", ARGUMENT, () -> t.load(1));
        Checks.append(t, "trains 3 2 1;");
        checks.answers("-1", ARGUMENT, () -> t.load(-1));
        checks.answers("the least int", ARGUMENT, () -> t.load(MIN));
        checks.answers("21 of 20", ARGUMENT, () -> t.load(21));
        checks.answers("the greatest int", ARGUMENT, () -> t.load(MAX));
        checks.answers("20 of 20, as the buffer is unchanged", 7, () -> t.load(20));
        checks.answers("0 of 0", SYNTAX, () -> t.load(0));
    }

    private static void onlyTheFirstBytesAreRead() {
        HubTrains t = new HubTrains();
        Checks.append(t, "trains 3 2 1;garbage");
        checks.same("the first 13", t.load(13), 7);
        Checks.append(t, "trains 3 2 1;");
        checks.same("the first 12", t.load(12) + " at " + t.errorOffset(), SYNTAX + " at 12");
        Checks.append(t, "trains 3 2 12;");
        checks.same("a number that is cut", t.load(12) + " at " + t.errorOffset(), SYNTAX + " at 12");
        Checks.append(t, "trains 3 2 1;");
        checks.same("none", t.load(0) + " at " + t.errorOffset(), SYNTAX + " at 0");
        Checks.append(t, "  trains 3 2 1;");
        checks.same("none of spaces", t.load(0) + " at " + t.errorOffset(), SYNTAX + " at 0");
        Checks.append(t, "  trains 3 2 1;");
        checks.same("one space", t.load(1) + " at " + t.errorOffset(), SYNTAX + " at 1");
    }

    private static void theBufferIsEmptyAfterwards() {
        HubTrains t = new HubTrains();
        Checks.append(t, "trains 3 2 1;hub 2;  trains 3 2 1;");
        t.load(13);
        checks.same("behind a load of some bytes", t.append(0, 0, 0, 0, 0), 20);
        t.load(20);
        checks.same("behind an error", t.errorOffset() + " " + t.append(0, 0, 0, 0, 0), "0 20");
        t.load(0);
        checks.same("behind a load of no byte", t.append(0, 0, 0, 0, 0), 20);
    }

    private static void anErrorLeavesTheOtherData() {
        HubTrains t = played(DOUBLES + "rank 7;", 13, 2);
        HubTrains same = played(DOUBLES + "rank 7;", 13, 2);
        Checks.load(t, "trains 4 3 3; hub 1; seed 5; give 2 0-1; rank 9; x");
        checks.same("an error at the end", t.errorOffset(), 49);
        checks.same("all numbers", t.checksum(), same.checksum());
        checks.same("the expression", t.rank(23, 1), 7);
        t.auto(200);
        same.auto(200);
        checks.same("the stock", t.checksum(), same.checksum());
        checks.same("the changes", t.undo() + " " + t.undo() + " " + t.undo() + " " + t.undo(), "2 1 0 -1");
    }

    private static void anEmptyText() {
        error("", SYNTAX, 0);
        error(" ", SYNTAX, 1);
        error(blanks(500), SYNTAX, 500);
    }

    private static void aTextOf500Bytes() {
        fine("trains 3 2 1;" + blanks(487));
        fine(blanks(487) + "trains 3 2 1;");
        fine("trains 3 2" + blanks(488) + "1;");
        error("trains 3 2" + blanks(489) + "1", SYNTAX, 500);
        error("trains 3 2 1;" + blanks(486) + "x", SYNTAX, 499);
        error("trains 3 2 1;rank 1" + "+1".repeat(240) + "+", SYNTAX, 500);
        String longest = "trains 3 2 1;give 0 0-3; rank 1" + "+1".repeat(234) + ";";
        checks.same("the longest expression", longest.length() + " " + Checks.loaded(longest).rank(3, 0), "500 235");
    }

    private static void runsOfDigits() {
        String zeros = "0".repeat(450);
        fine("trains " + zeros + "3 2 1;");
        fine("trains 3 2 1;seed " + zeros + "9999;");
        fine("trains 3 2 1;seed " + zeros + ";");
        fine("trains 3 2 1;give 1 " + zeros + "0-3;");
        fine("trains 3 2 1;rank " + zeros + "9999;");
        error("trains " + zeros + " 2 1;", RANGE, 7);
        error("trains 3 2 1;seed " + zeros + "10000;", RANGE, 18);
        error("trains 3 2 1;seed " + "9".repeat(450) + ";", RANGE, 18);
        error("trains 3 2 1;seed 1" + zeros + ";", RANGE, 18);
        error("trains 321;", RANGE, 7);
        error("trains 32 1;", RANGE, 7);
    }

    private static void valuesThatWouldWrap() {
        for (String above : new String[] {
            "2147483651", "4294967299", "9223372036854775811", "18446744073709551619",
            "340282366920938463463374607431768211459",
        }) {
            error("trains " + above + " 2 1;", RANGE, 7);
            error("trains 3 " + above + " 1;", RANGE, 9);
            error("trains 3 2 " + above + ";", RANGE, 11);
            error("trains 3 2 1;hub " + above + ";", RANGE, 17);
            error("trains 3 2 1;seed " + above + ";", RANGE, 18);
            error("trains 3 2 1;give " + above + " 0-0;", RANGE, 18);
            error("trains 3 2 1;give 0 " + above + "-0;", RANGE, 20);
            error("trains 3 2 1;give 0 0-" + above + ";", RANGE, 22);
            error("trains 3 2 1;rank " + above + ";", RANGE, 18);
        }
    }

    private static void runsOfLetters() {
        error("train 3 2 1;", SYNTAX, 0);
        error("trainss 3 2 1;", SYNTAX, 0);
        error("a".repeat(500), SYNTAX, 0);
        error("trains 3 2 1;" + "seed".repeat(100), SYNTAX, 13);
        error("trains 3 2 1;hubs 1;", SYNTAX, 13);
        error("trains 3 2 1;hu 1;", SYNTAX, 13);
        error("trains 3 2 1;rankpips;", SYNTAX, 13);
        error("trains 3 2 1;rank pipsown;", SYNTAX, 18);
        error("trains 3 2 1;rank pip;", SYNTAX, 18);
        error("trains 3 2 1;rank doubl;", SYNTAX, 18);
        error("trains 3 2 1;rank lefts;", SYNTAX, 18);
        error("trains 3 2 1;rank hub;", SYNTAX, 18);
        error("trains 3 2 1;pips 1;", SYNTAX, 13);
        error("tra ins 3 2 1;", SYNTAX, 0);
    }

    private static void spacesBeforeAnyToken() {
        fine("  trains  3  2  2  ;  hub  1  ;  seed  42  ;  give  0  0  -  0  3  -  1  ;  rank  ( pips  +  1 ) * own ; ");
        fine("trains 3 2 1 ;");
        fine("trains 3 2 1; ");
        fine(" trains 3 2 1;");
        error("trains 3 2 1; ;", SYNTAX, 14);
        error("trains 3 2 1; seed 1 0;", SYNTAX, 21);
    }

    private static void noSpacesAtAll() {
        fine("trains3 2 2;hub1;seed42;give0 0-0 3-1;rank2*pips/left+(own-public);");
        error("trains322;", RANGE, 6);
        error("trains3 2 2;give0 0-03-1;", SYNTAX, 22);
        fine("trains3 2 2;give0 0-03 1-1;");
    }

    private static void noOtherByteSeparates() {
        for (int blank : BLANKS) {
            char sign = (char) blank;
            error(sign + "trains 3 2 1;", SYNTAX, 0);
            error("trains" + sign + "3 2 1;", SYNTAX, 6);
            error("trains 3" + sign + "2 1;", SYNTAX, 8);
            error("trains 3 2 1;" + sign, SYNTAX, 13);
            error("trains 3 2 1;rank pips" + sign + ";", SYNTAX, 22);
        }
    }

    private static void bytesBesideDigitsAndLetters() {
        error("trains 3 2 1;seed /1;", SYNTAX, 18);
        error("trains 3 2 1;seed :1;", SYNTAX, 18);
        error("trains 3 2 1;seed 1/;", SYNTAX, 19);
        error("trains 3 2 1;seed 1:;", SYNTAX, 19);
        error("trains 3 2 1;`seed 1;", SYNTAX, 13);
        error("trains 3 2 1;{seed 1;", SYNTAX, 13);
        error("trains 3 2 1;seed` 1;", SYNTAX, 17);
        error("trains 3 2 1;seed{ 1;", SYNTAX, 17);
        error("trains 3 2 1;Seed 1;", SYNTAX, 13);
        error("trains 3 2 1;seeD 1;", SYNTAX, 13);
        error("trains 3 2 1;seed -1;", SYNTAX, 18);
        error("trains 3 2 1;seed +1;", SYNTAX, 18);
        fine("trains 3 2 1;seed 1234;rank 5*6*7*8*9*0;");
        error("trains 3 2 1;aseed 1;", SYNTAX, 13);
        error("trains 3 2 1;seedz 1;", SYNTAX, 13);
    }

    private static void theGreatestNumber() {
        error("trains 0 2 1;", RANGE, 7);
        error("trains 2 2 1;", RANGE, 7);
        fine("trains 3 2 1;");
        fine("trains 9 2 1;");
        error("trains 10 2 1;", RANGE, 7);
        checks.same("3", Checks.loaded("trains 3 2 1;").state(0), 3);
        checks.same("9", Checks.loaded("trains 9 2 1;").state(0), 9);
    }

    private static void thePlayers() {
        error("trains 3 0 1;", RANGE, 9);
        error("trains 3 1 1;", RANGE, 9);
        fine("trains 3 2 1;");
        fine("trains 3 4 1;");
        error("trains 3 5 1;", RANGE, 9);
        checks.same("2", Checks.loaded("trains 3 2 1;").state(1), 2);
        checks.same("4", Checks.loaded("trains 3 4 1;").state(1), 4);
    }

    private static void theHandSize() {
        error("trains 3 2 0;", RANGE, 11);
        fine("trains 3 2 1;");
        fine("trains 3 2 12;");
        error("trains 3 2 13;", RANGE, 11);
        checks.same("1", Checks.loaded("trains 3 2 1;").state(2), 1);
        checks.same("12", Checks.loaded("trains 3 2 12;").state(2), 12);
    }

    private static void theHub() {
        for (int greatest = 3; greatest <= 9; greatest++) {
            String head = "trains " + greatest + " 2 1;hub ";
            checks.same("the hub 0", Checks.loaded(head + "0;").state(3), 0);
            checks.same("the hub " + greatest, Checks.loaded(head + greatest + ";").state(3), greatest);
            error(head + (greatest + 1) + ";", RANGE, 17);
        }
    }

    private static void theHubWithoutAStatement() {
        for (int greatest = 3; greatest <= 9; greatest++) {
            String head = "trains " + greatest + " 2 1;";
            checks.same("the hub", Checks.loaded(head).state(3), greatest);
            error(head + "give 0 " + greatest + "-" + greatest + ";", REPEATED, 20);
            fine(head + "hub 0;give 0 " + greatest + "-" + greatest + ";");
        }
        HubTrains t = Checks.loaded("trains 3 2 1;hub 0;");
        Checks.load(t, "trains 4 2 1;");
        checks.same("not the hub of another setup", t.state(3), 4);
        Checks.load(t, "trains 4 2 1;hub 1;x");
        Checks.load(t, "trains 5 2 1;");
        checks.same("nor of one with an error", t.state(3), 5);
    }

    private static void theSeed() {
        checks.same("the seed 0", Checks.loaded(THREE + "seed 0;").state(12), 0);
        checks.same("the seed 9999", Checks.loaded(THREE + "seed 9999;").state(12), 9999);
        error("trains 3 2 1;seed 10000;", RANGE, 18);
    }

    private static void theSeedWithoutAStatement() {
        HubTrains t = Checks.loaded(THREE + "seed 77;");
        Checks.load(t, THREE);
        checks.same("the seed", t.state(12), 1);
        checks.same("the round", Checks.loaded("trains 9 4 12;").checksum(),
                Checks.loaded("trains 9 4 12;seed 1;").checksum());
    }

    private static void thePlayerOfAGive() {
        for (int players = 2; players <= 4; players++) {
            String head = "trains 3 " + players + " 1;give ";
            checks.same("player 0", Checks.loaded(head + "0 0-0;").tile(0, 0), 0);
            checks.same("the last player", Checks.loaded(head + (players - 1) + " 0-0;").tile(players - 1, 0), 0);
            error(head + players + " 0-0;", RANGE, 18);
        }
    }

    private static void theNumbersOfATile() {
        for (int greatest = 3; greatest <= 9; greatest++) {
            String head = "trains " + greatest + " 2 1;hub 1;give 0 ";
            int above = greatest + 1;
            checks.same("0 and 0", Checks.loaded(head + "0-0;").tile(0, 0), 0);
            checks.same("of any order", Checks.loaded(head + greatest + "-0;").tile(0, 0), greatest);
            checks.same("of any order", Checks.loaded(head + "0-" + greatest + ";").tile(0, 0), greatest);
            checks.same("twice", Checks.loaded(head + greatest + "-" + greatest + ";").tile(0, 0), 11 * greatest);
            error(head + above + "-0;", RANGE, 26);
            error(head + "0-" + above + ";", RANGE, 28);
        }
    }

    private static void aNumberAsAFactor() {
        fine("trains 3 2 1;rank 0;");
        fine("trains 3 2 1;rank 9999;");
        error("trains 3 2 1;rank 10000;", RANGE, 18);
        error("trains 3 2 1;rank pips*(1-10000);", RANGE, 26);
        error("trains 3 2 1;rank 1/10000;", RANGE, 20);
    }

    private static void statementsOnceEach() {
        error("trains 3 2 1;hub 3;hub 3;", SYNTAX, 19);
        error("trains 3 2 1;seed 3;seed 3;", SYNTAX, 20);
        error("trains 3 2 1;rank 3;rank 3;", SYNTAX, 20);
        error("trains 3 2 1;hub 1;seed 1;rank 1;  hub 1;", SYNTAX, 35);
        error("trains 3 2 1;hub 1;seed 1;rank 1;  seed 1;", SYNTAX, 35);
        error("trains 3 2 1;hub 1;seed 1;rank 1;  rank 1;", SYNTAX, 35);
        HubTrains t = Checks.loaded("trains 3 2 1;hub 1;seed 1;rank 1;");
        checks.same("once in each text", Checks.load(t, "trains 3 2 1;hub 1;seed 1;rank 1;"), 7);
        Checks.load(t, "trains 3 2 1;hub 1;seed 1;rank 1;x");
        checks.same("also behind an error", Checks.load(t, "trains 3 2 1;hub 1;seed 1;rank 1;"), 7);
    }

    private static void noHubBehindAGive() {
        error("trains 3 2 1;give 0 0-1;hub 3;", SYNTAX, 24);
        error("trains 3 2 1;give 0 0-1;seed 1; hub 9;", SYNTAX, 32);
        error("trains 3 2 1;hub 1;give 0 0-1;hub 1;", SYNTAX, 30);
        fine("trains 3 2 1;hub 1;give 0 0-1;");
        HubTrains t = Checks.loaded("trains 3 2 1;give 0 0-1;");
        checks.same("behind a give of another text", Checks.load(t, "trains 3 2 1;hub 1;"), 7);
        Checks.load(t, "trains 3 2 1;give 0 0-1;x");
        checks.same("of one with an error", Checks.load(t, "trains 3 2 1;hub 1;"), 7);
    }

    private static void statementsInAnyOrder() {
        fine("trains 3 2 1;rank own;give 0 0-0;seed 3;");
        fine("trains 3 2 1;seed 3;hub 2;rank own;give 0 0-0;give 1 3-3;");
        fine("trains 3 2 1;rank own;seed 3;hub 2;");
    }

    private static void givesSeveralTimes() {
        HubTrains t = Checks.loaded("trains 3 2 3;give 0 0-0;give 1 1-1;give 0 2-2 0-1;give 1 0-2;seed 1;give 1 1-2;");
        checks.same("all are given", hand(t, 0) + ", " + hand(t, 1), "0 1 22, 2 11 12");
        Checks.load(t, "trains 3 2 3;give 0 0-0;");
        checks.same("only by the text that was read", t.player(0, 0) + t.player(1, 0) + t.state(7), 9);
        Checks.load(t, "trains 3 2 3;give 0 0-1;x");
        checks.same("not by one with an error", Checks.load(t, "trains 3 2 3;give 1 0-1;"), 3);
    }

    private static void parenthesesFourDeep() {
        fine("trains 3 2 1;rank ((((1))));");
        fine("trains 3 2 1;rank ((((1+1))));");
        fine("trains 3 2 1;rank 1+(1*(1-(1/(1))));");
        fine("trains 3 2 1;rank ((((1))))+((((2))))*((((3))));");
        fine("trains 3 2 1;rank (1)" + "+(1)".repeat(100) + ";");
        checks.answers("their value", 321,
                () -> Checks.loaded(ROWS + "rank 300+(20+(1*(pips/(0-3)))*(0-1));").rank(3, 0));
    }

    private static void parenthesesFiveDeep() {
        error("trains 3 2 1;rank (((((1)))));", DEEP, 22);
        error("trains 3 2 1;rank ( ( ( ( ( (", DEEP, 26);
        error("trains 3 2 1;rank 1+(2*(3+(4*(5+(6", DEEP, 32);
        error("trains 3 2 1;rank ((((1))))+(((( (1", DEEP, 33);
        error("trains 3 2 1;rank ((((1*(", DEEP, 24);
    }

    private static void tokensThatAreNotAllowed() {
        error("x", SYNTAX, 0);
        error(";", SYNTAX, 0);
        error("3", SYNTAX, 0);
        error("hub 3;", SYNTAX, 0);
        error("hub 10;", SYNTAX, 0);
        error("seed 10000;", SYNTAX, 0);
        error("trains;", SYNTAX, 6);
        error("trains 3 2;", SYNTAX, 10);
        error("trains 3 2 1 1;", SYNTAX, 13);
        error("trains 3 2 1 hub 1;", SYNTAX, 13);
        error("trains 3 2 1;;", SYNTAX, 13);
        error("trains 3 2 1;foo 3;", SYNTAX, 13);
        error("trains 3 2 1;trains 3 2 1;", SYNTAX, 13);
        error("trains 3 2 1;hub;", SYNTAX, 16);
        error("trains 3 2 1;hub 1 1;", SYNTAX, 19);
        error("trains 3 2 1;hub 1,", SYNTAX, 18);
        error("trains 3 2 1;seed pips;", SYNTAX, 18);
        error("trains 3 2 1;give;", SYNTAX, 17);
        error("trains 3 2 1;give 0;", SYNTAX, 19);
        error("trains 3 2 1;give 0 1;", SYNTAX, 21);
        error("trains 3 2 1;give 0 1-;", SYNTAX, 22);
        error("trains 3 2 1;give 0 1--2;", SYNTAX, 22);
        error("trains 3 2 1;give 0 1+2;", SYNTAX, 21);
        error("trains 3 2 1;give 0 -1-2;", SYNTAX, 20);
        error("trains 3 2 2;give 0 1-2 3;", SYNTAX, 25);
        error("trains 3 2 2;give 0 1-2,2-2;", SYNTAX, 23);
        error("trains 3 2 1;rank;", SYNTAX, 17);
        error("trains 3 2 1;rank -1;", SYNTAX, 18);
        error("trains 3 2 1;rank 1+;", SYNTAX, 20);
        error("trains 3 2 1;rank 1*/2;", SYNTAX, 20);
        error("trains 3 2 1;rank 1 2;", SYNTAX, 20);
        error("trains 3 2 1;rank 1 pips;", SYNTAX, 20);
        error("trains 3 2 1;rank (1;", SYNTAX, 20);
        error("trains 3 2 1;rank 1);", SYNTAX, 19);
        error("trains 3 2 1;rank ();", SYNTAX, 19);
        error("trains 3 2 1;rank (1)(2);", SYNTAX, 21);
    }

    private static void theTextEndsTooEarly() {
        for (int length = 0; length < ALL.length(); length++) {
            String text = ALL.substring(0, length);
            if (length > 0 && ALL.charAt(length - 1) == ';') {
                fine(text);
            } else {
                error(text, SYNTAX, endOfPrefix(length));
                error(text + "  ", SYNTAX, cutsAWord(length) ? endOfPrefix(length) : length + 2);
            }
        }
        fine(ALL);
    }

    private static boolean isLetter(int at) {
        return at >= 0 && ALL.charAt(at) >= 'a' && ALL.charAt(at) <= 'z';
    }

    private static boolean cutsAWord(int length) {
        return isLetter(length - 1) && isLetter(length);
    }

    /** A word that is cut is another word, which is not allowed; else the end of the text is the error. */
    private static int endOfPrefix(int length) {
        int at = length;
        while (cutsAWord(length) && isLetter(at - 1)) {
            at--;
        }
        return at;
    }

    private static void tilesThatAreGivenAlready() {
        error("trains 3 2 2;give 0 1-2 1-2;", REPEATED, 24);
        error("trains 3 2 2;give 0 1-2 2-1;", REPEATED, 24);
        error("trains 3 2 2;give 0 1-2;give 1 1-2;", REPEATED, 31);
        error("trains 3 2 2;give 0 1-2;give 1  02 - 1;", REPEATED, 32);
        error("trains 3 2 2;give 0 0-0 0-0;", REPEATED, 24);
        fine("trains 3 2 2;give 0 1-2 1-1;give 1 2-2;");
    }

    private static void theDoubleOfTheHub() {
        error("trains 3 2 1;give 0 3-3;", REPEATED, 20);
        error("trains 3 2 1;hub 0;give 0 0-0;", REPEATED, 26);
        error("trains 3 2 1;hub 1;give 0 1-1;", REPEATED, 26);
        fine("trains 3 2 1;hub 1;give 0 1-3;");
        fine("trains 3 2 1;hub 1;give 0 3-3;");
    }

    private static void moreThanTheHandSize() {
        error("trains 3 2 1;give 0 1-2 0-0;", MANY, 24);
        fine("trains 3 2 2;give 0 1-2 0-0;");
        error("trains 3 2 2;give 0 1-2 0-0 0-1;", MANY, 28);
        error("trains 3 2 2;give 1 1-2;give 0 0-0;give 1 0-1 0-2;", MANY, 46);
        fine("trains 3 2 1;give 0 1-2;give 1 0-0;");
        fine("trains 4 2 12;give 0 0-0 0-1 0-2 0-3 0-4 1-1 1-2 1-3 1-4 2-2 2-3 2-4;");
        error("trains 4 2 12;give 0 0-0 0-1 0-2 0-3 0-4 1-1 1-2 1-3 1-4 2-2 2-3 2-4 3-3;", MANY, 69);
    }

    private static void anErrorWithinATile() {
        error("trains 3 2 1;give 0 1-2 1-4;", RANGE, 26);
        error("trains 3 2 1;give 0 1-2 4-1;", RANGE, 24);
        error("trains 3 2 1;give 0 1-2 1-;", SYNTAX, 26);
        error("trains 3 2 1;give 0 1-2 1;", SYNTAX, 25);
        error("trains 3 2 1;give 0 1-2 1", SYNTAX, 25);
        error("trains 3 2 1;give 0 1-2 1-", SYNTAX, 26);
        error("trains 3 2 1;give 0 1-2 1-2", REPEATED, 24);
        error("trains 3 2 1;give 0 1-2 1-1", MANY, 24);
        error("trains 3 2 2;give 0 3-3x", REPEATED, 20);
        error("trains 3 2 2;give 0 3-x", SYNTAX, 22);
    }

    private static void theFirstOfSeveralErrors() {
        error("trains 10 5 13;hub 10;x", RANGE, 7);
        error("trains 3 5 13;", RANGE, 9);
        error("trains 2", RANGE, 7);
        error("x trains 2 2 1;", SYNTAX, 0);
        error("trains 3 2 1;seed 10000 x", RANGE, 18);
        error("trains 3 2 1;seed x 10000", SYNTAX, 18);
        error("trains 3 2 1;give 0 3-3;hub 1;", REPEATED, 20);
        error("trains 3 2 1;give 0 0-0 1-1;hub 1;", MANY, 24);
        error("trains 3 2 1;rank (((((10000", DEEP, 22);
        error("trains 3 2 1;rank ((((10000(", RANGE, 22);
        error("trains 3 2 1;hub 4;hub 4;", RANGE, 17);
    }

    private static void severalKindsAtOneOffset() {
        error("trains 3 2 1;give 0 1-2 1-2;", REPEATED, 24);
        error("trains 3 2 1;give 0 1-2 3-3;", REPEATED, 24);
        error("trains 3 2 1;give 1 1-2;give 0 0-0 1-2;", REPEATED, 35);
        error("trains 3 2 1;rank ((((1(", SYNTAX, 23);
        error("trains 3 2 1;10000", SYNTAX, 13);
        error("trains 3 2 1;rank 1 10000", SYNTAX, 20);
        error("trains 3 2 1;rank ((((1)(", SYNTAX, 24);
    }

    private static void theErrorOffset() {
        HubTrains t = new HubTrains();
        checks.same("no call", t.errorOffset(), -1);
        checks.answers("a call that throws", ARGUMENT, () -> t.load(1));
        checks.same("no call that did not throw", t.errorOffset(), -1);
        t.load(0);
        checks.same("offset 0", t.errorOffset(), 0);
        Checks.load(t, blanks(499) + "x");
        checks.same("offset 499", t.errorOffset(), 499);
        Checks.load(t, blanks(500));
        checks.same("offset 500", t.errorOffset(), 500);
        checks.answers("a call that throws", ARGUMENT, () -> t.load(-1));
        checks.same("of the latest that did not throw", t.errorOffset(), 500);
        Checks.load(t, "trains 3 2 1;");
        checks.same("no error", t.errorOffset(), -1);
        checks.answers("a call that throws", ARGUMENT, () -> t.load(1));
        checks.same("still none", t.errorOffset(), -1);
    }

    /** Compares with the model, which reads byte by byte. */
    private static void eachByteAtEachOffset() {
        for (String text : new String[] {ALL, "trains 3 2 1;rank ((((1))))-2;"}) {
            for (int at = 0; at <= text.length(); at++) {
                for (int from = 0; from < 256; from += 16) {
                    bytesAt(text, at, from);
                }
            }
        }
    }

    /** 16 texts, as an object is used for at most 512 calls. */
    private static void bytesAt(String text, int at, int from) {
        HubTrains t = new HubTrains();
        Model model = new Model();
        for (int sign = from; sign < from + 16; sign++) {
            String other = text.substring(0, at) + (char) sign + text.substring(Math.min(at + 1, text.length()));
            for (int[] w : Checks.words(other)) {
                t.append(w[0], w[1], w[2], w[3], w[4]);
                model.append(w);
            }
            int length = other.length();
            checks.same("load of <" + other + ">", t.load(length) + " at " + t.errorOffset(),
                    model.load(length) + " at " + model.errorOffset());
        }
    }

    private static void theSetupIsTakenOver() {
        HubTrains t = roundOver();
        checks.same("a total, a round", t.player(1, 2) + " " + t.state(9), "5 1");
        Checks.load(t, ALL);
        checks.same("all numbers", states(t).startsWith("3 2 2 1 0 0 -1 5 0 0 "), true);
        checks.same("no passes", t.state(11), 0);
        checks.same("all totals are 0", t.player(0, 2) + " " + t.player(1, 2), "0 0");
        checks.same("no tile is laid", t.train(0, 0) + t.train(1, 0) + t.train(2, 0), 0);
        checks.same("the tiles that are given", hand(t, 0), "0 13");
        checks.same("the number of tiles in the stock", Checks.load(t, "trains 9 4 12;"), 6);
        checks.same("none in the stock", Checks.load(t, "trains 3 4 12;"), 0);
        checks.same("the most in the stock", Checks.load(t, "trains 9 2 1;"), 52);
    }
}
