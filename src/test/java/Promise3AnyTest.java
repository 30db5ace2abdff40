/** Promise 3, line: orders at any price. */
public final class Promise3AnyTest {
    private static final int NO_FUNDS = -16;

    public static void main(String[] args) {
        buys();
        buysAsMuchAsItCanPay();
        ownOrdersGoBeforeTheCashIsLooked();
        sells();
        Desk.finish();
    }

    private static void buys() {
        new Desk("any buy").lines("cash 0 100", "goods 1 9", "sell 1 2 at 5", "sell 1 3 at 9").line("buy 0 4 any", 2)
                .order(2, 0, 0, 0, 0, 2, -1).trade(0, 0, 1, 5, 2).trade(1, 0, 1, 9, 2).trader(0, 72, 4, 0, 0, 0)
                .trader(1, 28, 5, 0, 1, 1).count(3, 9).line("buy 0 4 any", 3).order(3, 0, 0, 3, 0, 2, -1).noLevel(0, 0)
                .noLevel(1, 0).line("buy 0 4 any", 4).left(4, 4);
    }

    private static void buysAsMuchAsItCanPay() {
        new Desk("short of cash").lines("cash 0 23", "goods 1 9", "sell 1 2 at 5", "sell 1 3 at 6", "sell 1 1 at 7")
                .line("buy 0 6 any", 3).trade(0, 0, 1, 5, 2).trade(1, 0, 1, 6, 2).noTrade(2).left(3, 2).state(3, 2)
                .left(1, 1).state(1, 0).trader(0, 1, 4, 0, 0, 0).trader(1, 22, 5, 0, 2, 2);
        new Desk("no cash").lines("goods 1 9", "sell 1 2 at 5").line("buy 0 6 any", 1).left(1, 6).count(1, 0)
                .count(2, 0).state(0, 0);
        // What is held for other orders is not free.
        new Desk("held cash").lines("cash 0 20", "goods 1 9", "buy 0 3 at 4", "sell 1 5 at 5").line("buy 0 5 any", 2)
                .left(2, 4).trader(0, 15, 1, 12, 0, 1);
        // The cash that is short ends the order, though a later own one could still be met.
        new Desk("ends").lines("cash 0 4", "goods 0 9", "goods 1 9", "sell 1 2 at 5", "sell 0 2 at 6")
                .line("buy 0 5 any", 2).state(1, 0).count(1, 0).left(2, 5);
    }

    private static void ownOrdersGoBeforeTheCashIsLooked() {
        new Desk("own first").lines("goods 0 9", "goods 1 9", "sell 0 1 at 3", "sell 0 2 at 4", "sell 1 2 at 5",
                "sell 0 2 at 6").line("buy 0 5 any", 4).state(0, 2).state(1, 2).state(2, 0).state(3, 0).left(4, 5)
                .trader(0, 0, 9, 0, 2, 1);
        new Desk("own after the cash").lines("cash 0 5", "goods 0 9", "goods 1 9", "sell 1 1 at 5", "sell 0 2 at 6",
                "sell 1 1 at 7").line("buy 0 5 any", 3).state(0, 2).state(1, 2).state(2, 0).left(3, 4)
                .trader(0, 0, 10, 0, 0, 0);
    }

    private static void sells() {
        new Desk("any sell").lines("cash 1 99", "goods 0 9", "buy 1 2 at 5", "buy 1 3 at 3").line("sell 0 10 any", NO_FUNDS)
                .line("sell 0 9 any", 2).order(2, 0, 1, 4, 0, 2, -1).trade(0, 1, 0, 5, 2).trade(1, 1, 0, 3, 3)
                .trader(0, 19, 4, 0, 0, 0).trader(1, 80, 5, 0, 0, 0).count(3, 3).noLevel(1, 0);
        new Desk("held goods").lines("goods 0 9", "sell 0 5 at 5").line("sell 0 5 any", NO_FUNDS)
                .line("sell 0 4 any", 1).left(1, 4).trader(0, 0, 9, 0, 5, 1);
        new Desk("own buys").lines("cash 0 99", "cash 1 99", "goods 0 9", "buy 0 2 at 5", "buy 1 3 at 3", "buy 0 1 at 2")
                .line("sell 0 5 any", 3).state(0, 2).state(1, 2).state(2, 2).left(3, 2).trade(0, 1, 0, 3, 3).noTrade(1)
                .trader(0, 108, 6, 0, 0, 0);
    }
}
