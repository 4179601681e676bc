/** The sentences of the document on changes that can be undone, with a test for each boundary. */
public final class UndoTest extends Scenes {
    private static final Checks checks = new Checks("UndoTest");

    public static void main(String[] args) {
        nothingToUndo();
        eachChangingMethodIsAChange();
        aChangeThatLeavesAllAsItWas();
        whatIsNoChange();
        oneToTenChanges();
        theLatestOneFirst();
        finalBehindEightLaterOnes();
        notFinalBehindSevenLaterOnes();
        laterOnesThatWereUndoneDoNotCount();
        whatIsFinalStaysFinal();
        undoneIsUndone();
        anUndoIsNoChange();
        theBufferIsNotAffected();
        theErrorOffsetIsNotAffected();
        allDataComeBack();
        checks.end();
    }

    /** Each makes a change, and all of them leave other data behind. */
    private static HubTrains changed(int changes) {
        HubTrains t = new HubTrains();
        for (int k = 0; k < changes; k++) {
            Checks.load(t, text(k));
        }
        return t;
    }

    private static String text(int k) {
        return "trains " + (3 + k % 7) + " 2 1;seed " + (100 + k) + ";";
    }

    /** The checksum behind so many changes. */
    private static long sum(int changes) {
        return changes == 0 ? new HubTrains().checksum() : Checks.loaded(text(changes - 1)).checksum();
    }

    private static void nothingToUndo() {
        HubTrains t = new HubTrains();
        long before = t.checksum();
        checks.same("none", t.undo(), -1);
        checks.same("none again", t.undo(), -1);
        checks.same("nothing changes", t.checksum(), before);
        HubTrains one = changed(1);
        checks.same("one", one.undo(), 0);
        checks.same("none is left", one.undo() + " " + one.checksum(), "-1 " + before);
    }

    private static void eachChangingMethodIsAChange() {
        HubTrains load = changed(1);
        checks.same("load", load.undo() + " " + load.checksum(), "0 " + sum(0));
        HubTrains play = Checks.loaded(ROWS);
        long before = play.checksum();
        play.play(3, 0);
        checks.same("play", play.undo() + " " + play.checksum(), "1 " + before);
        HubTrains draw = new HubTrains();
        draw.draw();
        checks.same("draw", draw.undo() + " " + draw.checksum(), "0 " + sum(0));
        draw.draw();
        before = draw.checksum();
        draw.pass();
        checks.same("pass", draw.undo() + " " + draw.checksum(), "1 " + before);
        HubTrains auto = new HubTrains();
        auto.auto(200);
        before = auto.checksum();
        checks.same("the round is over", auto.state(8), 1);
        auto.deal(2, 5);
        checks.same("deal", auto.undo() + " " + auto.checksum(), "1 " + before);
        checks.same("auto, of many steps", auto.undo() + " " + auto.checksum(), "0 " + sum(0));
    }

    private static void aChangeThatLeavesAllAsItWas() {
        HubTrains t = roundOver();
        checks.same("auto without a step", t.auto(5), 0);
        checks.same("is one", t.undo() + " " + t.state(8), "2 1");
        HubTrains again = Checks.loaded(ROWS);
        long before = again.checksum();
        Checks.load(again, ROWS);
        checks.same("load of the same text", again.checksum(), before);
        checks.same("is one", again.undo() + " " + again.checksum(), "1 " + before);
    }

    private static void whatIsNoChange() {
        HubTrains t = Checks.loaded(ROWS);
        t.state(0);
        t.player(0, 0);
        t.tile(0, 0);
        t.train(0, 0);
        t.why(3, 0);
        t.best();
        t.rank(3, 0);
        t.longest(0);
        t.longestTile(0, 0);
        t.heaviest(0);
        t.winner();
        t.stepsToEnd();
        t.meanPips();
        t.checksum();
        t.errorOffset();
        checks.same("an error", Checks.load(t, "x"), HubTrains.SYNTAX_ERROR);
        checks.answers("a call that throws", STATE, () -> t.play(3, 1));
        checks.answers("a call that throws", STATE, () -> t.draw());
        checks.answers("a call that throws", STATE, () -> t.pass());
        checks.answers("a call that throws", ARGUMENT, () -> t.auto(0));
        checks.answers("a call that throws", STATE, () -> t.deal(0, 0));
        checks.answers("a call that throws", ARGUMENT, () -> t.load(1));
        t.append(0, 0, 0, 0, 0);
        checks.same("only the load", t.undo() + " " + t.undo(), "0 -1");
    }

    private static void oneToTenChanges() {
        for (int changes = 1; changes <= 10; changes++) {
            HubTrains t = changed(changes);
            int most = Math.min(changes, 8);
            for (int left = most - 1; left >= 0; left--) {
                checks.same(changes + " changes, left", t.undo(), left);
            }
            checks.same(changes + " changes, none left", t.undo(), -1);
            checks.same(changes + " changes, all undone", t.checksum(), sum(changes - most));
        }
    }

    private static void theLatestOneFirst() {
        HubTrains t = changed(8);
        for (int left = 7; left >= 0; left--) {
            t.undo();
            checks.same("the data behind change " + left, t.checksum(), sum(left));
        }
    }

    private static void finalBehindEightLaterOnes() {
        HubTrains t = changed(9);
        for (int k = 0; k < 8; k++) {
            t.undo();
        }
        checks.same("the first of 9", t.undo() + " " + t.checksum(), "-1 " + sum(1));
    }

    private static void notFinalBehindSevenLaterOnes() {
        HubTrains t = changed(8);
        for (int k = 0; k < 7; k++) {
            t.undo();
        }
        checks.same("the first of 8", t.undo() + " " + t.checksum(), "0 " + sum(0));
    }

    private static void laterOnesThatWereUndoneDoNotCount() {
        HubTrains t = changed(6);
        for (int k = 0; k < 3; k++) {
            t.undo();
        }
        for (int k = 3; k < 8; k++) {
            Checks.load(t, text(k));
        }
        for (int left = 7; left >= 0; left--) {
            checks.same("eight that were not undone", t.undo(), left);
            checks.same("the data", t.checksum(), sum(left));
        }
        HubTrains often = changed(1);
        for (int k = 0; k < 20; k++) {
            often.auto(1);
            often.undo();
        }
        checks.same("one, behind 20 that were undone", often.undo() + " " + often.checksum(), "0 " + sum(0));
    }

    private static void whatIsFinalStaysFinal() {
        HubTrains t = changed(10);
        for (int k = 0; k < 4; k++) {
            t.undo();
        }
        checks.same("4 of 8 are left", t.undo(), 3);
        Checks.load(t, text(5));
        for (int left = 3; left >= 0; left--) {
            checks.same("one more was made", t.undo(), left);
        }
        checks.same("the second change is final", t.undo() + " " + t.checksum(), "-1 " + sum(2));
    }

    private static void undoneIsUndone() {
        HubTrains t = changed(3);
        t.undo();
        t.undo();
        Checks.load(t, text(7));
        checks.same("behind a new change", t.undo() + " " + t.checksum(), "1 " + sum(1));
        checks.same("not the ones that were undone", t.undo() + " " + t.checksum(), "0 " + sum(0));
    }

    private static void anUndoIsNoChange() {
        HubTrains t = changed(2);
        t.undo();
        checks.same("the one before", t.undo() + " " + t.checksum(), "0 " + sum(0));
    }

    private static void theBufferIsNotAffected() {
        HubTrains t = changed(2);
        Checks.append(t, "trains 3 2 1;hub 2; ");
        t.undo();
        checks.same("the bytes stay", t.append(0, 0, 0, 0, 0), 40);
        checks.same("and are read", t.load(19) + " " + t.state(3), "7 2");
        t.undo();
        checks.same("it stays empty", t.append(0, 0, 0, 0, 0), 20);
    }

    private static void theErrorOffsetIsNotAffected() {
        HubTrains t = changed(2);
        Checks.load(t, "trains x");
        t.undo();
        checks.same("an error stays", t.errorOffset(), 7);
        Checks.load(t, text(4));
        t.undo();
        checks.same("none stays none", t.errorOffset(), -1);
        HubTrains none = new HubTrains();
        Checks.load(none, "x");
        checks.same("nothing to undo", none.undo() + " " + none.errorOffset(), "-1 0");
    }

    /** Two rounds with all kinds of changes, of which the latest 8 are taken back one by one and made again. */
    private static void allDataComeBack() {
        HubTrains t = Checks.loaded(DOUBLES + "rank 9-pips;");
        t.play(13, 2);
        t.play(12, 2);
        t.play(2, 2);
        t.play(23, 1);
        long[] sums = new long[9];
        for (int k = 0; k <= 8; k++) {
            sums[k] = t.checksum();
            change(t, k);
        }
        for (int k = 8; k >= 1; k--) {
            t.undo();
            checks.same("the data before change " + k, t.checksum(), sums[k]);
        }
        for (int k = 1; k < 8; k++) {
            change(t, k);
            checks.same("the data behind change " + k + " made again", t.checksum(), sums[k + 1]);
        }
    }

    private static void change(HubTrains t, int k) {
        switch (k) {
            case 0 -> t.play(0, 2);
            case 1 -> t.draw();
            case 2 -> t.play(1, 2);
            case 3 -> t.play(22, 1);
            case 4 -> t.pass();
            case 5 -> t.pass();
            case 6 -> t.deal(1, 77);
            case 7 -> t.auto(3);
            default -> Checks.load(t, STUCK);
        }
    }
}
