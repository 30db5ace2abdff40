/** Promise 3, line: limits, and their ways now, all, post and until. */
public final class Promise3LimitTest {
    private static final int NO_FUNDS = -16, NO_MATCH = -17;

    public static void main(String[] args) {
        fundsAreHeld();
        tradesAtThePriceThatWaited();
        bestPriceThenLowestNumber();
        ownOrdersAreCancelledNotTraded();
        now();
        all();
        post();
        until();
        large();
        Desk.finish();
    }

    private static void fundsAreHeld() {
        new Desk("held").lines("cash 0 100", "goods 0 10").line("buy 0 5 at 7", 0).line("sell 0 4 at 9", 1)
                .trader(0, 100, 10, 35, 4, 2).line("buy 0 5 at 8", 2).trader(0, 100, 10, 75, 4, 3);
    }

    private static void tradesAtThePriceThatWaited() {
        new Desk("buy meets").lines("cash 0 100", "goods 1 10", "sell 1 4 at 6").line("buy 0 10 at 9", 1)
                .trader(0, 76, 4, 54, 0, 1).trader(1, 24, 6, 0, 0, 0).order(0, 1, 1, 0, 6, 2, -1)
                .order(1, 0, 0, 6, 9, 0, -1).trade(0, 0, 1, 6, 4).count(3, 6).level(0, 0, 9, 6, 1).noLevel(1, 0);
        new Desk("sell meets").lines("cash 0 100", "goods 1 10", "buy 0 4 at 6").line("sell 1 10 at 2", 1)
                .trader(0, 76, 4, 0, 0, 0).trader(1, 24, 6, 0, 6, 1).order(0, 0, 0, 0, 6, 2, -1)
                .order(1, 1, 1, 6, 2, 0, -1).trade(0, 0, 1, 6, 4).count(3, 6).level(1, 0, 2, 6, 1).noLevel(0, 0);
        new Desk("part of a waiting one").lines("cash 0 100", "goods 1 10", "sell 1 9 at 6").line("buy 0 2 at 6", 1)
                .left(0, 7).state(0, 0).state(1, 2).trader(1, 12, 8, 0, 7, 1).trader(0, 88, 2, 0, 0, 0);
        new Desk("prices that do not meet").lines("cash 0 100", "goods 1 10", "sell 1 9 at 6").line("buy 0 2 at 5", 1)
                .line("sell 1 1 at 7", 2).count(1, 0).count(3, 0).level(0, 0, 5, 2, 1).level(1, 0, 6, 9, 1)
                .level(1, 1, 7, 1, 1);
    }

    private static void bestPriceThenLowestNumber() {
        Desk sells = new Desk("best sells").lines("cash 0 999", "goods 1 20", "goods 2 20", "sell 1 2 at 8",
                "sell 1 2 at 6", "sell 2 2 at 7", "sell 2 2 at 6").line("buy 0 7 at 7", 4);
        sells.trade(0, 0, 1, 6, 2).trade(1, 0, 2, 6, 2).trade(2, 0, 2, 7, 2).noTrade(3).left(4, 1).count(3, 7)
                .level(0, 0, 7, 1, 1).level(1, 0, 8, 2, 1);
        Desk buys = new Desk("best buys").lines("goods 0 20", "cash 1 99", "cash 2 99", "buy 1 2 at 5", "buy 1 2 at 7",
                "buy 2 2 at 6", "buy 2 2 at 7").line("sell 0 7 at 6", 4);
        buys.trade(0, 1, 0, 7, 2).trade(1, 2, 0, 7, 2).trade(2, 2, 0, 6, 2).noTrade(3).left(4, 1).count(3, 6)
                .level(1, 0, 6, 1, 1).level(0, 0, 5, 2, 1);
    }

    private static void ownOrdersAreCancelledNotTraded() {
        new Desk("own sell").lines("cash 0 100", "goods 0 9", "goods 1 9", "sell 0 4 at 5", "sell 1 4 at 6",
                "sell 0 2 at 7").line("buy 0 5 at 6", 3).order(0, 0, 1, 4, 5, 2, -1).order(2, 0, 1, 2, 7, 0, -1)
                .trade(0, 0, 1, 6, 4).noTrade(1).trader(0, 76, 13, 6, 2, 2).level(0, 0, 6, 1, 1);
        new Desk("own buy").lines("cash 0 100", "goods 0 9", "buy 0 4 at 5").line("sell 0 2 at 5", 1).state(0, 2)
                .left(0, 4).count(1, 0).count(3, 0).trader(0, 100, 9, 0, 2, 1);
        // A meeting that has nothing left leaves the next own order alone.
        new Desk("own behind").lines("cash 0 100", "goods 0 9", "goods 1 9", "sell 1 4 at 5", "sell 0 4 at 5")
                .line("buy 0 4 at 5", 2).state(1, 0).trader(0, 80, 13, 0, 4, 1);
    }

    private static void now() {
        new Desk("now").lines("cash 0 100", "goods 1 9", "sell 1 3 at 5").line("buy 0 5 at 6 now", 1)
                .order(1, 0, 0, 2, 6, 2, -1).trader(0, 85, 3, 0, 0, 0).noLevel(0, 0).line("buy 0 5 at 6 now", 2)
                .left(2, 5).state(2, 2).line("sell 1 2 at 9 now", 3).left(3, 2).trader(1, 15, 6, 0, 0, 0)
                .line("buy 0 99 at 99 now", NO_FUNDS);
    }

    private static void all() {
        Desk desk = new Desk("all").lines("cash 0 500", "goods 0 9", "goods 1 9", "goods 2 9", "sell 1 3 at 5",
                "sell 0 4 at 5", "sell 2 3 at 6", "sell 1 1 at 7", "sell 0 1 at 6");
        desk.line("buy 0 7 at 6 all", NO_MATCH).state(1, 0).trader(0, 500, 9, 0, 5, 2).count(0, 5).count(1, 0);
        desk.line("buy 0 6 at 6 all", 5).order(5, 0, 0, 0, 6, 2, -1).state(1, 2).left(1, 4).state(4, 0).state(3, 0)
                .trade(0, 0, 1, 5, 3).trade(1, 0, 2, 6, 3).trader(0, 467, 15, 0, 1, 1);
        new Desk("all sell").lines("cash 0 90", "goods 1 9", "buy 0 3 at 5", "buy 0 3 at 4")
                .line("sell 1 4 at 5 all", NO_MATCH).line("sell 1 4 at 4 all", 2).left(1, 2).count(3, 4)
                .trader(0, 71, 4, 8, 0, 1);
        new Desk("all on nothing").lines("cash 0 90").line("buy 0 1 at 1 all", NO_MATCH).count(0, 0);
    }

    private static void post() {
        new Desk("post").lines("cash 0 90", "goods 0 9", "goods 1 9", "sell 1 3 at 5", "sell 0 3 at 4")
                .line("buy 0 1 at 4 post", NO_MATCH).state(1, 0).line("buy 0 1 at 3 post", 2).level(0, 0, 3, 1, 1)
                .line("sell 1 1 at 3 post", NO_MATCH).line("sell 0 1 at 3 post", NO_MATCH)
                .line("sell 1 1 at 4 post", 3).level(1, 0, 4, 4, 2).count(0, 4).count(2, 3);
    }

    private static void until() {
        Desk desk = new Desk("until").lines("cash 0 900", "goods 1 9", "tick 5").line("buy 0 2 at 5 until 3", 0)
                .order(0, 0, 0, 2, 5, 0, 8).line("sell 1 3 at 5 until 99", 1).order(1, 1, 1, 1, 5, 0, 104).state(0, 2)
                .order(0, 0, 0, 0, 5, 2, 8).line("buy 0 1 at 5 until 3", 2).order(2, 0, 0, 0, 5, 2, -1);
        desk.line("buy 0 1 at 1", 3).order(3, 0, 0, 1, 1, 0, -1).line("tick 99", 0).state(3, 0).count(4, 104);
    }

    private static void large() {
        Desk desk = new Desk("large");
        for (int i = 0; i < 30; i++) {
            desk.lines("cash 0 9999999");
        }
        desk.lines("goods 1 9999").line("buy 0 9999 at 9999", 0).trader(0, 299999970L, 0, 99980001L, 0, 1)
                .line("buy 0 9999 at 9999", 1).line("buy 0 9999 at 9999", 2).line("buy 0 9999 at 9999", NO_FUNDS)
                .trader(0, 299999970L, 0, 299940003L, 0, 3).level(0, 0, 9999, 29997, 3)
                .line("sell 1 9999 at 1", 3).trader(0, 200019969L, 9999, 199960002L, 0, 2)
                .trader(1, 99980001L, 0, 0, 0, 0).trade(0, 0, 1, 9999, 9999).count(3, 9999);
    }
}
