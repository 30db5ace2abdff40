/** Promise 7: trade. */
public final class Promise7TradeTest {
    public static void main(String[] args) {
        whatItAnswers();
        meetingsThatAreNoTrades();
        noSuchTrade();
        noSuchWhat();
        leastAndGreatest();
        asManyAsThereCanBe();
        Desk.finish();
    }

    private static Desk two() {
        return new Desk("two").lines("cash 4 500", "goods 2 90", "cash 6 500", "sell 2 3 at 5", "sell 2 4 at 6",
                "buy 4 5 at 9", "buy 6 9 at 3");
    }

    private static void whatItAnswers() {
        two().trade(0, 4, 2, 5, 3).trade(1, 4, 2, 6, 2).noTrade(2).lines("sell 2 7 any").trade(0, 4, 2, 5, 3)
                .trade(1, 4, 2, 6, 2).trade(2, 6, 2, 3, 7).noTrade(3);
    }

    private static void meetingsThatAreNoTrades() {
        new Desk("of one trader").lines("cash 0 9", "goods 0 9", "buy 0 1 at 5", "sell 0 1 at 5").noTrade(0).count(1, 0)
                .count(3, 0);
        new Desk("without cash").lines("goods 0 9", "sell 0 1 at 5", "buy 1 1 any").noTrade(0).count(1, 0).count(3, 0);
    }

    private static void noSuchTrade() {
        Desk desk = two();
        for (int k : Edges.outside(1)) {
            desk.noTrade(k).tradeWhat(k, -1, -1).tradeWhat(k, 4, -1);
        }
        desk.noTrade(39).noTrade(40).noTrade(199).noTrade(200).noTrade(201).count(2, 0);
        Desk none = new Desk("none");
        for (int k : Edges.outside(-1)) {
            none.noTrade(k);
        }
    }

    private static void noSuchWhat() {
        for (int k = 0; k < 2; k++) {
            Desk desk = two();
            for (int what : Edges.outside(3)) {
                desk.tradeWhat(k, what, TradeFloor.REFUSED);
            }
            desk.count(2, 0);
        }
    }

    private static void leastAndGreatest() {
        new Desk("traders 0 and 7").lines("cash 0 9", "goods 7 9", "buy 0 1 at 1", "sell 7 1 at 1").trade(0, 0, 7, 1, 1);
        Desk desk = new Desk("9999 at 9999").lines("goods 0 9999", "sell 0 9999 at 9999");
        for (int i = 0; i < 10; i++) {
            desk.lines("cash 7 9999999");
        }
        desk.lines("buy 7 9999 any").trade(0, 7, 0, 9999, 9999).trader(0, 99980001L, 0, 0, 0, 0)
                .trader(7, 19989L, 9999, 0, 0, 0);
    }

    /**
     * Every trade ends an order for good, so forty orders make fewer than forty trades: all stay known, and the
     * 201st can never come.
     */
    private static void asManyAsThereCanBe() {
        Desk desk = new Desk("many trades").lines("cash 0 9999", "goods 1 99");
        for (int price = 1; price <= 39; price++) {
            desk.lines("sell 1 1 at " + price);
        }
        desk.lines("buy 0 39 any").count(1, 39);
        for (int k = 0; k < 39; k++) {
            desk.trade(k, 0, 1, k + 1, 1);
        }
        desk.noTrade(39).noTrade(40);
    }
}
