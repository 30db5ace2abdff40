/** Promise 6: level. */
public final class Promise6LevelTest {
    public static void main(String[] args) {
        whatItAnswers();
        emptyBooks();
        aBookThatBecomesEmpty();
        asManyPricesAsOrders();
        fortyOrdersAtOnePrice();
        leastAndGreatestPrice();
        noSuchRow();
        noSuchSide();
        noSuchWhat();
        Desk.finish();
    }

    private static Desk busy() {
        return new Desk("busy").lines("cash 0 500", "cash 1 500", "goods 2 90", "goods 3 90", "buy 0 5 at 7",
                "buy 1 2 at 9", "buy 1 3 at 7", "buy 0 1 at 8", "sell 2 4 at 12", "sell 3 1 at 10", "sell 2 6 at 12",
                "sell 3 2 at 11", "stop buy 0 5 at 50", "stop sell 2 5 at 1");
    }

    private static void whatItAnswers() {
        Desk desk = busy();
        desk.level(0, 0, 9, 2, 1).level(0, 1, 8, 1, 1).level(0, 2, 7, 8, 2).noLevel(0, 3);
        desk.level(1, 0, 10, 1, 1).level(1, 1, 11, 2, 1).level(1, 2, 12, 10, 2).noLevel(1, 3);

        desk.lines("sell 3 4 at 8").level(0, 0, 7, 8, 2).noLevel(0, 1).level(1, 0, 8, 1, 1).level(1, 3, 12, 10, 2)
                .noLevel(1, 4);
        desk.lines("less 1 2 2").level(0, 0, 7, 6, 2).lines("cancel 1 2").level(0, 0, 7, 5, 1).noLevel(0, 1)
                .lines("cancel 0 0").noLevel(0, 0).level(1, 0, 8, 1, 1);
    }

    private static void emptyBooks() {
        new Desk("no orders").noLevel(0, 0).noLevel(1, 0).noLevel(0, 1).noLevel(1, 1);
        new Desk("stops alone").lines("stop buy 0 5 at 5", "stop sell 0 5 at 5").noLevel(0, 0).noLevel(1, 0);
        new Desk("buys alone").lines("cash 0 9", "buy 0 1 at 5").level(0, 0, 5, 1, 1).noLevel(0, 1).noLevel(1, 0);
        new Desk("sells alone").lines("goods 0 9", "sell 0 1 at 5").level(1, 0, 5, 1, 1).noLevel(1, 1).noLevel(0, 0);
        new Desk("orders of the moment alone").lines("cash 0 9", "goods 0 9", "buy 0 1 at 5 now", "sell 0 1 at 5 now",
                "buy 0 1 any", "sell 0 1 any").noLevel(0, 0).noLevel(1, 0);
    }

    private static void aBookThatBecomesEmpty() {
        new Desk("cancelled").lines("cash 0 9", "buy 0 1 at 5", "cancel 0 0").noLevel(0, 0);
        new Desk("ended").lines("cash 0 9", "buy 0 1 at 5 until 2", "tick 1").level(0, 0, 5, 1, 1).lines("tick 1")
                .noLevel(0, 0);
        new Desk("met").lines("cash 0 9", "goods 1 9", "buy 0 1 at 5", "sell 1 1 at 5").noLevel(0, 0).noLevel(1, 0);
        new Desk("met by its own").lines("cash 0 9", "goods 0 9", "buy 0 1 at 5", "sell 0 2 at 5").noLevel(0, 0)
                .level(1, 0, 5, 2, 1);
    }

    private static void asManyPricesAsOrders() {
        Desk buys = new Desk("forty prices of buys").lines("cash 0 9999");
        Desk sells = new Desk("forty prices of sells").lines("goods 0 9999");
        for (int price = 1; price <= 40; price++) {
            buys.lines("buy 0 2 at " + price);
            sells.lines("sell 0 3 at " + price);
        }
        for (int k = 0; k < 40; k++) {
            buys.level(0, k, 40 - k, 2, 1);
            sells.level(1, k, k + 1, 3, 1);
        }
        buys.noLevel(0, 40).noLevel(1, 0).noLevel(0, -1);
        sells.noLevel(1, 40).noLevel(0, 0).noLevel(1, -1);

        Desk both = new Desk("twenty of each").lines("cash 0 9999", "goods 1 99");
        for (int i = 0; i < 20; i++) {
            both.lines("buy 0 1 at " + (1 + i * 7 % 20), "sell 1 1 at " + (31 + i * 7 % 20));
        }
        for (int k = 0; k < 20; k++) {
            both.level(0, k, 20 - k).level(1, k, 31 + k);
        }
        both.noLevel(0, 20).noLevel(1, 20);
    }

    private static void fortyOrdersAtOnePrice() {
        Desk desk = new Desk("one price").lines("goods 5 399960");
        for (int orders = 1; orders <= 40; orders++) {
            desk.lines("sell 5 9999 at 3").level(1, 0, 3, 9999 * orders, orders).level(1, 1, -1);
        }
    }

    private static void leastAndGreatestPrice() {
        new Desk("1 and 9999").lines("cash 0 99999", "buy 0 1 at 1", "buy 0 2 at 9999").level(0, 0, 9999, 2, 1)
                .level(0, 1, 1, 1, 1).noLevel(0, 2);
        new Desk("1 and 9999 of sells").lines("goods 0 9", "sell 0 1 at 9999", "sell 0 2 at 1").level(1, 0, 1, 2, 1)
                .level(1, 1, 9999, 1, 1).noLevel(1, 2);
    }

    private static void noSuchRow() {
        for (int side = 0; side <= 1; side++) {
            Desk desk = busy();
            for (int k : Edges.outside(2)) {
                desk.noLevel(side, k).levelWhat(side, k, -1, -1).levelWhat(side, k, 3, -1);
            }
            desk.noLevel(side, 39).noLevel(side, 40).noLevel(side, 41).count(2, 0);
        }
    }

    private static void noSuchSide() {
        Desk desk = busy();
        for (int side : Edges.outside(1)) {
            desk.noLevel(side, 0).noLevel(side, 1);
        }
        desk.count(2, 0);
    }

    private static void noSuchWhat() {
        for (int side = 0; side <= 1; side++) {
            for (int k = 0; k < 3; k++) {
                Desk desk = busy();
                for (int what : Edges.outside(2)) {
                    desk.levelWhat(side, k, what, TradeFloor.REFUSED);
                }
                desk.count(2, 0);
            }
        }
    }
}
