/** Promise 3, line: cancel, less and tick. */
public final class Promise3CancelLessTickTest {
    private static final int WRONG_WORDS = -11, IS_DONE = -14;

    public static void main(String[] args) {
        cancels();
        lessens();
        lessKeepsThePlace();
        ticks();
        ticksEndWhatWaits();
        endsOfOneRun();
        Desk.finish();
    }

    private static void cancels() {
        new Desk("cancel").lines("cash 0 100", "goods 0 9", "buy 0 5 at 7", "sell 0 4 at 9", "stop buy 0 6 at 8")
                .line("cancel 0 0", 5).order(0, 0, 0, 5, 7, 2, -1).trader(0, 100, 9, 0, 4, 2).line("cancel 0 2", 6)
                .order(2, 0, 0, 6, 8, 2, -1).count(6, 0).line("cancel 0 1", 4).trader(0, 100, 9, 0, 0, 0)
                .line("cancel 0 1", IS_DONE).noLevel(0, 0).noLevel(1, 0).count(0, 3);
        new Desk("cancel the rest").lines("cash 0 100", "goods 1 9", "buy 0 5 at 7", "sell 1 2 at 7")
                .line("cancel 0 0", 3).trader(0, 86, 2, 0, 0, 0).left(0, 3);
    }

    private static void lessens() {
        new Desk("less").lines("cash 0 100", "goods 0 9", "buy 0 5 at 7", "sell 0 4 at 9", "stop sell 0 6 at 3")
                .line("less 0 0 2", 3).trader(0, 100, 9, 21, 4, 3).line("less 0 0 0", 3).line("less 0 0 3", WRONG_WORDS)
                .line("less 0 0 4", WRONG_WORDS).line("less 0 0 9999999", WRONG_WORDS).line("less 0 0 2", 1)
                .trader(0, 100, 9, 7, 4, 3).line("less 0 1 3", 1).trader(0, 100, 9, 7, 1, 3).line("less 0 2 5", 1)
                .order(2, 0, 1, 1, 3, 1, -1).trader(0, 100, 9, 7, 1, 3).line("less 0 2 1", WRONG_WORDS).count(2, 4)
                .level(0, 0, 7, 1, 1).level(1, 0, 9, 1, 1);
    }

    private static void lessKeepsThePlace() {
        new Desk("place").lines("cash 0 100", "cash 1 100", "goods 2 9", "buy 0 5 at 7 until 4", "buy 1 5 at 7")
                .line("less 0 0 1", 4).order(0, 0, 0, 4, 7, 0, 4).lines("sell 2 5 at 7").trade(0, 0, 2, 7, 4)
                .trade(1, 1, 2, 7, 1);
    }

    private static void ticks() {
        Desk desk = new Desk("ticks").lines("cash 0 100", "goods 1 9", "buy 0 1 at 5 until 3", "sell 1 2 at 8 until 3",
                "buy 0 1 at 4 until 2", "buy 0 1 at 3", "buy 0 1 at 2 until 99", "stop buy 0 1 at 9");
        desk.line("tick 1", 0).count(4, 1).line("tick 1", 1).state(2, 2).order(2, 0, 0, 1, 4, 2, 2).state(0, 0)
                .trader(0, 100, 0, 10, 0, 4).line("tick 1", 2).state(0, 2).state(1, 2).order(1, 1, 1, 2, 8, 2, 3)
                .trader(1, 0, 9, 0, 0, 0).trader(0, 100, 0, 5, 0, 3).count(4, 3);
        desk.line("tick 95", 0).state(4, 0).line("tick 99", 1).count(4, 197).state(3, 0).state(4, 2).state(5, 1);
        new Desk("many ticks at once").lines("cash 0 100", "buy 0 1 at 5 until 3", "buy 0 1 at 5 until 4",
                "buy 0 1 at 5 until 5", "buy 0 1 at 5 until 6").line("cancel 0 1", 1).line("tick 5", 2).state(3, 0)
                .count(4, 5).trader(0, 100, 0, 5, 0, 1).line("buy 0 1 at 5 until 1", 4).order(4, 0, 0, 1, 5, 0, 6)
                .line("tick 1", 2).trader(0, 100, 0, 0, 0, 0);
    }

    /** An order that is DONE before its time is not cancelled again, and a stop has no time. */
    private static void ticksEndWhatWaits() {
        new Desk("met before").lines("cash 0 100", "goods 1 9", "buy 0 2 at 5 until 3", "sell 1 2 at 5").line("tick 5", 0)
                .order(0, 0, 0, 0, 5, 2, 3).trader(0, 90, 2, 0, 0, 0);
        new Desk("cancelled before").lines("cash 0 100", "buy 0 2 at 5 until 3", "cancel 0 0").line("tick 5", 0)
                .order(0, 0, 0, 2, 5, 2, 3).trader(0, 100, 0, 0, 0, 0);
        new Desk("met in part before").lines("cash 0 100", "goods 1 9", "buy 0 3 at 5 until 3", "sell 1 2 at 5")
                .trader(0, 90, 2, 5, 0, 1).line("tick 3", 1).order(0, 0, 0, 1, 5, 2, 3).trader(0, 90, 2, 0, 0, 0);
        new Desk("lessened before").lines("goods 0 9", "sell 0 3 at 5 until 3", "less 0 0 1").line("tick 2", 0)
                .trader(0, 0, 9, 0, 2, 1).line("tick 1", 1).order(0, 0, 1, 2, 5, 2, 3).trader(0, 0, 9, 0, 0, 0);
        new Desk("no end").lines("cash 0 100", "buy 0 3 at 5", "stop buy 0 3 at 5").line("tick 99", 0).line("tick 99", 0)
                .state(0, 0).state(1, 1);
    }

    /** Every time between is passed, each order ends at its own. */
    private static void endsOfOneRun() {
        Desk desk = new Desk("one run").lines("cash 0 100", "goods 1 100");
        for (int n = 1; n <= 10; n++) {
            desk.lines("buy 0 1 at 1 until " + n, "sell 1 1 at 9 until " + (20 - n));
        }
        desk.line("tick 9", 9).traderWhat(0, 4, 1).traderWhat(1, 4, 10).line("tick 1", 2).traderWhat(1, 4, 9)
                .line("tick 8", 8).line("tick 1", 1).line("tick 99", 0).trader(0, 100, 0, 0, 0, 0)
                .trader(1, 0, 100, 0, 0, 0).count(4, 118);
    }
}
