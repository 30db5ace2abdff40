/** Promise 3, line: MATCHES and MEETING at their edges, each on both sides. */
public final class Promise3MeetingTest {
    private static final int NO_MATCH = -17;

    public static void main(String[] args) {
        aPriceJustAsGood();
        anyPriceMeetsAll();
        theLesserLeft();
        bestPriceFirst();
        lowestNumberOfOnePrice();
        ownOrdersOnTheWay();
        ownOrdersAlone();
        nothingLeftOnTheOtherSide();
        allInSum();
        allMeetsItsOwnOnTheWay();
        Desk.finish();
    }

    private static void aPriceJustAsGood() {
        String[] sell = {"goods 1 9", "sell 1 1 at 5", "cash 0 99"};
        new Desk("buy at the price").lines(sell).line("buy 0 1 at 5", 1).trade(0, 0, 1, 5, 1);
        new Desk("buy one above").lines(sell).line("buy 0 1 at 6", 1).trade(0, 0, 1, 5, 1).trader(0, 94, 1, 0, 0, 0);
        new Desk("buy one below").lines(sell).line("buy 0 1 at 4", 1).noTrade(0).state(0, 0).state(1, 0);
        String[] buy = {"cash 1 9", "buy 1 1 at 5", "goods 0 9"};
        new Desk("sell at the price").lines(buy).line("sell 0 1 at 5", 1).trade(0, 1, 0, 5, 1);
        new Desk("sell one below").lines(buy).line("sell 0 1 at 4", 1).trade(0, 1, 0, 5, 1).trader(0, 5, 8, 0, 0, 0);
        new Desk("sell one above").lines(buy).line("sell 0 1 at 6", 1).noTrade(0).state(0, 0).state(1, 0);
    }

    private static void anyPriceMeetsAll() {
        new Desk("any buy").lines("goods 1 9", "sell 1 1 at 1", "sell 1 1 at 9999", "cash 0 10000").line("buy 0 2 any", 2)
                .trade(0, 0, 1, 1, 1).trade(1, 0, 1, 9999, 1).trader(0, 0, 2, 0, 0, 0);
        new Desk("any sell").lines("cash 1 10000", "buy 1 1 at 1", "buy 1 1 at 9999", "goods 0 2").line("sell 0 2 any", 2)
                .trade(0, 1, 0, 9999, 1).trade(1, 1, 0, 1, 1).trader(0, 10000, 0, 0, 0, 0);
    }

    private static void theLesserLeft() {
        for (int quantity = 1; quantity <= 3; quantity++) {
            int traded = Math.min(quantity, 2);
            int rest = quantity - traded;
            new Desk("buy of " + quantity).lines("goods 1 9", "sell 1 2 at 5", "cash 0 99")
                    .line("buy 0 " + quantity + " at 5", 1).trade(0, 0, 1, 5, traded).noTrade(1).left(0, 2 - traded)
                    .state(0, traded == 2 ? 2 : 0).left(1, rest).state(1, rest == 0 ? 2 : 0)
                    .trader(0, 99 - 5 * traded, traded, 5 * rest, 0, rest).trader(1, 5 * traded, 9 - traded, 0, 2 - traded);
            new Desk("sell of " + quantity).lines("cash 1 99", "buy 1 2 at 5", "goods 0 9")
                    .line("sell 0 " + quantity + " at 5", 1).trade(0, 1, 0, 5, traded).noTrade(1).left(0, 2 - traded)
                    .state(0, traded == 2 ? 2 : 0).left(1, rest).state(1, rest == 0 ? 2 : 0)
                    .trader(0, 5 * traded, 9 - traded, 0, rest, rest).trader(1, 99 - 5 * traded, traded, 5 * (2 - traded), 0);
        }
    }

    private static void bestPriceFirst() {
        new Desk("lowest sell").lines("goods 1 9", "sell 1 1 at 6", "sell 1 1 at 5", "sell 1 1 at 7", "cash 0 99",
                "buy 0 1 at 9").trade(0, 0, 1, 5, 1).lines("buy 0 1 at 9").trade(1, 0, 1, 6, 1).lines("buy 0 1 at 9")
                .trade(2, 0, 1, 7, 1).lines("buy 0 1 at 9").noTrade(3);
        new Desk("highest buy").lines("cash 1 99", "buy 1 1 at 6", "buy 1 1 at 7", "buy 1 1 at 5", "goods 0 9",
                "sell 0 1 at 1").trade(0, 1, 0, 7, 1).lines("sell 0 1 at 1").trade(1, 1, 0, 6, 1).lines("sell 0 1 at 1")
                .trade(2, 1, 0, 5, 1).lines("sell 0 1 at 1").noTrade(3);
    }

    private static void lowestNumberOfOnePrice() {
        new Desk("sells").lines("goods 1 9", "goods 2 9", "goods 3 9", "sell 3 1 at 5", "sell 1 1 at 5", "sell 2 1 at 5",
                "cash 0 99", "buy 0 3 at 5").trade(0, 0, 3, 5, 1).trade(1, 0, 1, 5, 1).trade(2, 0, 2, 5, 1);
        new Desk("buys").lines("cash 1 9", "cash 2 9", "cash 3 9", "buy 3 1 at 5", "buy 1 1 at 5", "buy 2 1 at 5",
                "goods 0 9", "sell 0 3 at 5").trade(0, 3, 0, 5, 1).trade(1, 1, 0, 5, 1).trade(2, 2, 0, 5, 1);
        // An order that was met in part keeps its place before the later one.
        new Desk("met in part").lines("goods 1 9", "goods 2 9", "sell 1 2 at 5", "sell 2 2 at 5", "cash 0 99", "buy 0 1 at 5",
                "buy 0 1 at 5", "buy 0 1 at 5").trade(0, 0, 1, 5, 1).trade(1, 0, 1, 5, 1).trade(2, 0, 2, 5, 1);
    }

    private static void ownOrdersOnTheWay() {
        new Desk("own sells").lines("cash 0 99", "goods 0 9", "goods 1 9", "sell 0 1 at 5", "sell 1 1 at 5", "sell 0 1 at 5",
                "sell 1 1 at 5", "sell 0 1 at 5").line("buy 0 2 at 5", 5).state(0, 2).left(0, 1).state(1, 2).state(2, 2)
                .left(2, 1).state(3, 2).state(4, 0).trade(0, 0, 1, 5, 1).trade(1, 0, 1, 5, 1).noTrade(2)
                .trader(0, 89, 11, 0, 1, 1);
        new Desk("own buys").lines("goods 0 9", "cash 0 99", "cash 1 99", "buy 0 1 at 5", "buy 1 1 at 5", "buy 0 1 at 5",
                "buy 1 1 at 5", "buy 0 1 at 5").line("sell 0 2 at 5", 5).state(0, 2).left(0, 1).state(1, 2).state(2, 2)
                .left(2, 1).state(3, 2).state(4, 0).trade(0, 1, 0, 5, 1).trade(1, 1, 0, 5, 1).noTrade(2)
                .trader(0, 109, 7, 5, 0, 1);
    }

    /** Its own orders are cancelled whole, and the order keeps all that it has LEFT; LAST stays. */
    private static void ownOrdersAlone() {
        new Desk("own sells alone").lines("cash 0 99", "goods 0 9", "sell 0 4 at 5", "sell 0 4 at 6", "sell 0 1 at 7")
                .line("buy 0 1 at 6", 3).state(0, 2).state(1, 2).state(2, 0).left(0, 4).left(1, 4).order(3, 0, 0, 1, 6, 0, -1)
                .trader(0, 99, 9, 6, 1, 2).count(1, 0).count(3, 0);
        new Desk("own buys alone").lines("cash 0 99", "goods 0 9", "buy 0 4 at 6", "buy 0 4 at 5", "buy 0 1 at 4")
                .line("sell 0 1 at 5", 3).state(0, 2).state(1, 2).state(2, 0).left(0, 4).left(1, 4).order(3, 0, 1, 1, 5, 0, -1)
                .trader(0, 99, 9, 4, 1, 2).count(1, 0).count(3, 0);
        new Desk("now among its own").lines("cash 0 99", "goods 0 9", "sell 0 4 at 5").line("buy 0 1 at 6 now", 1).state(0, 2)
                .order(1, 0, 0, 1, 6, 2, -1).trader(0, 99, 9, 0, 0, 0);
        new Desk("until among its own").lines("cash 0 99", "goods 0 9", "sell 0 4 at 5").line("buy 0 1 at 6 until 3", 1)
                .state(0, 2).order(1, 0, 0, 1, 6, 0, 3);
    }

    private static void nothingLeftOnTheOtherSide() {
        new Desk("buy").lines("goods 1 9", "sell 1 2 at 5", "sell 1 2 at 6", "cash 0 99").line("buy 0 9 at 9", 2)
                .noLevel(1, 0).level(0, 0, 9, 5, 1).trader(0, 77, 4, 45, 0, 1).order(2, 0, 0, 5, 9, 0, -1);
        new Desk("sell").lines("cash 1 99", "buy 1 2 at 5", "buy 1 2 at 6", "goods 0 9").line("sell 0 9 at 1", 2)
                .noLevel(0, 0).level(1, 0, 1, 5, 1).trader(0, 22, 5, 0, 5, 1).order(2, 0, 1, 5, 1, 0, -1);
    }

    private static void allInSum() {
        String[] sells = {"goods 1 9", "goods 2 9", "sell 1 2 at 5", "sell 2 2 at 6", "sell 1 2 at 7", "cash 0 99"};
        new Desk("just the sum of buys").lines(sells).line("buy 0 4 at 6 all", 3).left(3, 0).left(2, 2).count(1, 2);
        new Desk("one less than the sum").lines(sells).line("buy 0 3 at 6 all", 3).left(3, 0).left(1, 1).state(1, 0);
        new Desk("one more than the sum").lines(sells).line("buy 0 5 at 6 all", NO_MATCH).left(0, 2).left(1, 2).count(0, 3)
                .trader(0, 99, 0, 0, 0, 0);
        String[] buys = {"cash 1 99", "cash 2 99", "buy 1 2 at 7", "buy 2 2 at 6", "buy 1 2 at 5", "goods 0 9"};
        new Desk("just the sum of sells").lines(buys).line("sell 0 4 at 6 all", 3).left(3, 0).left(2, 2).count(1, 2);
        new Desk("one less than the sum").lines(buys).line("sell 0 3 at 6 all", 3).left(3, 0).left(1, 1).state(1, 0);
        new Desk("one more than the sum").lines(buys).line("sell 0 5 at 6 all", NO_MATCH).left(0, 2).left(1, 2).count(0, 3)
                .trader(0, 0, 9, 0, 0, 0);
        // What is LEFT counts, not what an order came with.
        new Desk("met before").lines(sells).lines("buy 0 1 at 5").line("buy 0 4 at 6 all", NO_MATCH).line("buy 0 3 at 6 all", 4);
        new Desk("lessened before").lines(sells).lines("less 1 0 1").line("buy 0 4 at 6 all", NO_MATCH)
                .line("buy 0 3 at 6 all", 3);
    }

    private static void allMeetsItsOwnOnTheWay() {
        String[] sells = {"cash 0 99", "goods 0 9", "goods 1 9", "sell 0 3 at 5", "sell 1 2 at 6", "sell 0 3 at 6",
            "sell 1 2 at 7", "sell 0 3 at 7"};
        new Desk("refused").lines(sells).line("buy 0 5 at 7 all", NO_MATCH).state(0, 0).state(2, 0).state(4, 0)
                .trader(0, 99, 9, 0, 9, 3);
        new Desk("met").lines(sells).line("buy 0 4 at 7 all", 5).state(0, 2).left(0, 3).state(2, 2).left(2, 3).state(4, 0)
                .trader(0, 73, 13, 0, 3, 1).count(1, 2);
        String[] buys = {"goods 0 9", "cash 0 99", "cash 1 99", "buy 0 3 at 7", "buy 1 2 at 6", "buy 0 3 at 6", "buy 1 2 at 5",
            "buy 0 3 at 5"};
        new Desk("refused sell").lines(buys).line("sell 0 5 at 5 all", NO_MATCH).state(0, 0).state(2, 0).state(4, 0)
                .trader(0, 99, 9, 54, 0, 3);
        new Desk("met sell").lines(buys).line("sell 0 4 at 5 all", 5).state(0, 2).left(0, 3).state(2, 2).left(2, 3)
                .state(4, 0).trader(0, 121, 5, 15, 0, 1).count(1, 2);
    }
}
