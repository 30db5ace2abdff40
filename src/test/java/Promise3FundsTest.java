/** Promise 3, line: FREE parts that are just enough, and one too few. */
public final class Promise3FundsTest {
    private static final int NO_FUNDS = -16;
    private static final String[] WAYS = {"", " now", " post", " until 5"};

    public static void main(String[] args) {
        take();
        limitBuys();
        limitSells();
        allOrders();
        anySells();
        anyBuys();
        stopSells();
        stopBuys();
        whatIsFreeAgain();
        whatATradeBrings();
        whatIsNeverFreeOnTheWay();
        Desk.finish();
    }

    private static void take() {
        new Desk("take").lines("cash 0 5").line("take 0 6", NO_FUNDS).trader(0, 5).line("take 0 5", 5).trader(0, 0)
                .line("take 0 1", NO_FUNDS).line("take 0 0", 0).count(2, 2);
        new Desk("take beside what is held").lines("cash 0 50", "buy 0 4 at 10").line("take 0 11", NO_FUNDS)
                .line("take 0 10", 10).line("take 0 1", NO_FUNDS).trader(0, 40, 0, 40, 0, 1);
        new Desk("take from others").lines("cash 1 5").line("take 0 1", NO_FUNDS).line("take 2 1", NO_FUNDS);
        new Desk("goods are no cash").lines("goods 0 5").line("take 0 1", NO_FUNDS);
        new Desk("take the greatest").lines("cash 0 9999998").line("take 0 9999999", NO_FUNDS).lines("cash 0 1")
                .line("take 0 9999999", 9999999).trader(0, 0);
    }

    private static void limitBuys() {
        for (String way : WAYS) {
            new Desk("just enough" + way).lines("cash 0 35").line("buy 0 5 at 7" + way, 0).count(2, 0);
            new Desk("one too few" + way).lines("cash 0 34").line("buy 0 5 at 7" + way, NO_FUNDS).trader(0, 34, 0, 0, 0, 0)
                    .count(0, 0);
            new Desk("beside what is held" + way).lines("cash 0 45", "buy 0 2 at 5").line("buy 0 6 at 6" + way, NO_FUNDS)
                    .line("buy 0 5 at 7" + way, 1);
            new Desk("goods are no cash" + way).lines("goods 0 99").line("buy 0 1 at 1" + way, NO_FUNDS);
        }
        // Its own price counts, also where every match is cheaper.
        new Desk("cheaper matches").lines("goods 1 5", "sell 1 5 at 2", "cash 0 14").line("buy 0 5 at 3", NO_FUNDS)
                .lines("cash 0 1").line("buy 0 5 at 3", 1).trader(0, 5, 5, 0, 0, 0);
        Desk greatest = new Desk("greatest");
        for (int i = 0; i < 9; i++) {
            greatest.lines("cash 0 9999999");
        }
        greatest.lines("cash 0 9980009").trader(0, 99980000L).line("buy 0 9999 at 9999", NO_FUNDS).lines("cash 0 1")
                .line("buy 0 9999 at 9999", 0).trader(0, 99980001L, 0, 99980001L, 0, 1).line("take 0 1", NO_FUNDS);
    }

    private static void limitSells() {
        for (String way : WAYS) {
            new Desk("just enough" + way).lines("goods 0 5").line("sell 0 5 at 7" + way, 0).count(2, 0);
            new Desk("one too few" + way).lines("goods 0 4").line("sell 0 5 at 7" + way, NO_FUNDS)
                    .trader(0, 0, 4, 0, 0, 0).count(0, 0);
            new Desk("beside what is held" + way).lines("goods 0 9", "sell 0 4 at 9").line("sell 0 6 at 9" + way, NO_FUNDS)
                    .line("sell 0 5 at 9" + way, 1);
            new Desk("cash is no goods" + way).lines("cash 0 99").line("sell 0 1 at 1" + way, NO_FUNDS);
        }
        new Desk("greatest").lines("goods 0 9998").line("sell 0 9999 at 9999", NO_FUNDS).lines("goods 0 1")
                .line("sell 0 9999 at 9999", 0).trader(0, 0, 9999, 0, 9999, 1).line("sell 0 1 at 1", NO_FUNDS);
    }

    private static void allOrders() {
        Desk buys = new Desk("all buys").lines("goods 1 9", "sell 1 9 at 5", "cash 0 19").line("buy 0 4 at 5 all", NO_FUNDS)
                .line("buy 0 3 at 6 all", 1).trader(0, 4, 3, 0, 0, 0);
        buys.lines("cash 0 16").line("buy 0 4 at 5 all", 2).trader(0, 0, 7, 0, 0, 0).line("buy 0 1 at 5 all", NO_FUNDS);
        new Desk("all sells").lines("cash 1 99", "buy 1 9 at 5", "goods 0 3").line("sell 0 4 at 5 all", NO_FUNDS)
                .line("sell 0 3 at 5 all", 1).trader(0, 15, 0, 0, 0, 0).line("sell 0 1 at 5 all", NO_FUNDS);
    }

    private static void anySells() {
        new Desk("just enough").lines("cash 1 99", "buy 1 9 at 5", "goods 0 3").line("sell 0 4 any", NO_FUNDS).count(1, 0)
                .line("sell 0 3 any", 1).trade(0, 1, 0, 5, 3).line("sell 0 1 any", NO_FUNDS).trader(0, 15, 0, 0, 0, 0);
        new Desk("no match needed").lines("goods 0 3").line("sell 0 4 any", NO_FUNDS).line("sell 0 3 any", 0).left(0, 3)
                .trader(0, 0, 3, 0, 0, 0);
        new Desk("beside what is held").lines("cash 1 99", "buy 1 9 at 5", "goods 0 7", "sell 0 4 at 9")
                .line("sell 0 4 any", NO_FUNDS).line("sell 0 3 any", 2).trader(0, 15, 4, 0, 4, 1);
    }

    private static void anyBuys() {
        String[] book = {"goods 1 20", "sell 1 3 at 7", "sell 1 3 at 8"};
        new Desk("just enough for all").lines(book).lines("cash 0 37").line("buy 0 5 any", 2).trade(0, 0, 1, 7, 3)
                .trade(1, 0, 1, 8, 2).order(2, 0, 0, 0, 0, 2, -1).trader(0, 0, 5, 0, 0, 0);
        new Desk("one too few for all").lines(book).lines("cash 0 36").line("buy 0 5 any", 2).trade(1, 0, 1, 8, 1)
                .noTrade(2).left(2, 1).trader(0, 7, 4, 0, 0, 0).left(1, 2);
        new Desk("just enough for the first").lines(book).lines("cash 0 21").line("buy 0 5 any", 2).trade(0, 0, 1, 7, 3)
                .noTrade(1).left(2, 2).trader(0, 0, 3, 0, 0, 0).state(0, 2).state(1, 0);
        new Desk("one too few for the first").lines(book).lines("cash 0 20").line("buy 0 5 any", 2)
                .trade(0, 0, 1, 7, 2).noTrade(1).left(2, 3).trader(0, 6, 2, 0, 0, 0).left(0, 1).state(0, 0).count(3, 7);
        new Desk("just enough for one").lines(book).lines("cash 0 7").line("buy 0 5 any", 2).trade(0, 0, 1, 7, 1)
                .left(2, 4).trader(0, 0, 1, 0, 0, 0);
        new Desk("one too few for one").lines(book).lines("cash 0 6").line("buy 0 5 any", 2).noTrade(0)
                .order(2, 0, 0, 5, 0, 2, -1).trader(0, 6, 0, 0, 0, 0).count(2, 0).count(3, 0).left(0, 3);
        new Desk("at the least price").lines("goods 1 9", "sell 1 9 at 1", "cash 0 3").line("buy 0 5 any", 1).left(1, 2)
                .trade(0, 0, 1, 1, 3).trader(0, 0, 3, 0, 0, 0).line("buy 0 5 any", 2).left(2, 5).noTrade(1);
        new Desk("at the greatest price").lines("goods 1 9", "sell 1 9 at 9999", "cash 0 19997").line("buy 0 5 any", 1)
                .left(1, 4).trader(0, 9998, 1, 0, 0, 0).lines("cash 0 1").line("buy 0 5 any", 2).left(2, 4).trader(0, 0, 2);
        new Desk("no cash").lines(book).line("buy 0 9999 any", 2).noTrade(0).left(2, 9999).count(2, 0);
        new Desk("beside what is held").lines(book).lines("cash 0 20", "buy 0 7 at 2").line("buy 0 5 any", 3).noTrade(0)
                .left(3, 5).lines("cash 0 1").line("buy 0 5 any", 4).trade(0, 0, 1, 7, 1).left(4, 4)
                .trader(0, 14, 1, 14, 0, 1);
    }

    private static Desk trade7(Desk desk) {
        return desk.lines("cash 6 7", "goods 7 1", "sell 7 1 at 7", "buy 6 1 at 7");
    }

    private static void stopSells() {
        String[] book = {"cash 1 99", "buy 1 9 at 5", "stop sell 0 4 at 7"};
        trade7(new Desk("just enough").lines(book).lines("goods 0 4")).order(1, 0, 1, 0, 7, 2, -1).trade(1, 1, 0, 5, 4)
                .trader(0, 20, 0, 0, 0, 0);
        trade7(new Desk("one too few").lines(book).lines("goods 0 3")).order(1, 0, 1, 1, 7, 2, -1).trade(1, 1, 0, 5, 3)
                .noTrade(2).trader(0, 15, 0, 0, 0, 0);
        trade7(new Desk("just one").lines(book).lines("goods 0 1")).left(1, 3).trade(1, 1, 0, 5, 1);
        trade7(new Desk("none").lines(book)).order(1, 0, 1, 4, 7, 2, -1).noTrade(1).trader(0, 0, 0, 0, 0, 0).count(6, 0);
        trade7(new Desk("all of it held").lines(book).lines("goods 0 4", "sell 0 4 at 90")).order(1, 0, 1, 4, 7, 2, -1)
                .noTrade(1).trader(0, 0, 4, 0, 4, 1);
        // With none to sell it meets nobody: its own buy stays, too.
        trade7(new Desk("none, beside an own buy").lines("cash 0 9", "buy 0 1 at 6", "stop sell 0 4 at 7")).state(0, 0)
                .order(1, 0, 1, 4, 7, 2, -1);
    }

    private static void stopBuys() {
        String[] book = {"goods 1 9", "sell 1 9 at 9", "stop buy 0 4 at 7"};
        trade7(new Desk("just enough").lines(book).lines("cash 0 36")).order(1, 0, 0, 0, 7, 2, -1).trade(1, 0, 1, 9, 4)
                .trader(0, 0, 4, 0, 0, 0);
        trade7(new Desk("one too few").lines(book).lines("cash 0 35")).order(1, 0, 0, 1, 7, 2, -1).trade(1, 0, 1, 9, 3)
                .noTrade(2).trader(0, 8, 3, 0, 0, 0);
        trade7(new Desk("one too few for one").lines(book).lines("cash 0 8")).order(1, 0, 0, 4, 7, 2, -1).noTrade(1)
                .trader(0, 8, 0, 0, 0, 0).count(6, 0);
        trade7(new Desk("none").lines(book)).order(1, 0, 0, 4, 7, 2, -1).noTrade(1).count(6, 0);
        new Desk("none is needed to sleep").line("stop buy 0 9999 at 9999", 0).line("stop sell 0 9999 at 1", 1)
                .trader(0, 0, 0, 0, 0, 2);
    }

    private static void whatIsFreeAgain() {
        new Desk("cancelled").lines("cash 0 20", "goods 0 4", "buy 0 4 at 5", "sell 0 4 at 6").line("take 0 1", NO_FUNDS)
                .lines("cancel 0 0").line("take 0 21", NO_FUNDS).line("take 0 20", 20).line("sell 0 1 any", NO_FUNDS)
                .lines("cancel 0 1").line("sell 0 5 any", NO_FUNDS).line("sell 0 4 any", 2);
        new Desk("less").lines("cash 0 20", "goods 0 4", "buy 0 4 at 5", "sell 0 4 at 6", "less 0 0 3")
                .line("take 0 16", NO_FUNDS).line("take 0 15", 15).lines("less 0 1 3").line("sell 0 4 any", NO_FUNDS)
                .line("sell 0 3 any", 2);
        new Desk("ended").lines("cash 0 20", "goods 0 4", "buy 0 4 at 5 until 2", "sell 0 4 at 6 until 2", "tick 1")
                .line("take 0 1", NO_FUNDS).line("sell 0 1 any", NO_FUNDS).lines("tick 1").line("take 0 21", NO_FUNDS)
                .line("take 0 20", 20).line("sell 0 5 any", NO_FUNDS).line("sell 0 4 any", 2);
        new Desk("now").lines("cash 0 20", "goods 0 4", "buy 0 4 at 5 now", "sell 0 4 at 6 now").line("take 0 21", NO_FUNDS)
                .line("take 0 20", 20).line("sell 0 5 any", NO_FUNDS).line("sell 0 4 any", 2);
        new Desk("an own order on the way").lines("cash 0 20", "goods 0 4", "buy 0 4 at 5", "sell 0 1 at 5")
                .line("take 0 21", NO_FUNDS).line("take 0 20", 20);
        new Desk("paid less than held").lines("goods 1 4", "sell 1 2 at 3", "cash 0 20", "buy 0 4 at 5")
                .trader(0, 14, 2, 10, 0, 1).line("take 0 5", NO_FUNDS).line("take 0 4", 4);
    }

    /** What a trade brings is free at once. */
    private static void whatATradeBrings() {
        new Desk("goods").lines("goods 1 4", "sell 1 4 at 3", "cash 0 9", "buy 0 3 at 3").line("sell 0 4 any", NO_FUNDS)
                .line("sell 0 3 any", 2);
        new Desk("cash").lines("goods 1 4", "sell 1 4 at 3", "cash 0 9", "buy 0 3 at 3").line("take 1 10", NO_FUNDS)
                .line("take 1 9", 9).trader(1, 0, 1, 0, 1, 1);
    }

    /** What own orders on the way would set free comes too late for the order that cancels them. */
    private static void whatIsNeverFreeOnTheWay() {
        new Desk("goods of an own buy").lines("cash 0 9", "goods 0 3", "buy 0 3 at 3").line("sell 0 4 at 3", NO_FUNDS)
                .state(0, 0).line("sell 0 3 at 3", 1).state(0, 2);
        new Desk("goods of an own sell").lines("cash 0 9", "goods 0 3", "sell 0 3 at 3").line("buy 0 4 at 3", NO_FUNDS)
                .state(0, 0).line("sell 0 1 any", NO_FUNDS).line("buy 0 3 at 3", 1).state(0, 2).trader(0, 9, 3, 9, 0, 1);
    }
}
