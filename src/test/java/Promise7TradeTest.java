/** Promise 7: trade. */
public final class Promise7TradeTest {
    public static void main(String[] args) {
        Desk desk = new Desk("trades").lines("cash 4 500", "goods 2 90", "cash 6 500", "sell 2 3 at 5", "sell 2 4 at 6",
                "buy 4 5 at 9", "buy 6 9 at 3");
        desk.trade(0, 4, 2, 5, 3).trade(1, 4, 2, 6, 2).noTrade(2).lines("sell 2 7 any");
        desk.trade(0, 4, 2, 5, 3).trade(1, 4, 2, 6, 2).trade(2, 6, 2, 3, 7).noTrade(3);

        int[] noTrades = {-1, 200, -200, Integer.MAX_VALUE, Integer.MIN_VALUE};
        for (int k : noTrades) {
            desk.noTrade(k);
        }
        int[] noWhats = {-1, 4, Integer.MAX_VALUE, Integer.MIN_VALUE};
        for (int what : noWhats) {
            desk.due("trade(0, " + what + ")", desk.floor.trade(0, what), TradeFloor.REFUSED);
        }
        desk.count(2, 0);
        asManyAsThereCanBe();
        Desk.finish();
    }

    /** Every trade ends an order for good, so forty orders make fewer than forty trades: all stay known. */
    private static void asManyAsThereCanBe() {
        Desk desk = new Desk("many trades").lines("cash 0 9999", "goods 1 99");
        for (int price = 1; price <= 39; price++) {
            desk.lines("sell 1 1 at " + price);
        }
        desk.lines("buy 0 39 any").count(1, 39);
        for (int k = 0; k < 39; k++) {
            desk.trade(k, 0, 1, k + 1, 1);
        }
        desk.noTrade(39);
    }
}
