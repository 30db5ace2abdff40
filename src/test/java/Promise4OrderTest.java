/** Promise 4: order. */
public final class Promise4OrderTest {
    public static void main(String[] args) {
        Desk desk = new Desk("orders").lines("cash 3 100", "goods 5 9", "buy 3 5 at 7 until 9", "sell 5 2 at 8",
                "stop sell 5 6 at 4", "buy 3 1 any", "sell 5 1 at 6 now", "sell 5 1 at 9 now");
        desk.order(0, 3, 0, 4, 7, 0, 9).order(1, 5, 1, 1, 8, 0, -1).order(2, 5, 1, 6, 4, 1, -1)
                .order(3, 3, 0, 0, 0, 2, -1).order(4, 5, 1, 0, 6, 2, -1).order(5, 5, 1, 1, 9, 2, -1);
        // What a cancelled or ended order had stays to be seen.
        desk.lines("cancel 5 2", "tick 9").order(0, 3, 0, 4, 7, 2, 9).order(2, 5, 1, 6, 4, 2, -1);

        int[] noOrders = {-1, 6, 39, 40, Integer.MAX_VALUE, Integer.MIN_VALUE};
        for (int o : noOrders) {
            desk.order(o, -1, -1, -1, -1, -1, -1);
        }
        int[] noWhats = {-1, 6, 7, Integer.MAX_VALUE, Integer.MIN_VALUE};
        for (int what : noWhats) {
            desk.due("order(0, " + what + ")", desk.floor.order(0, what), TradeFloor.REFUSED);
        }
        desk.count(2, 0);
        Desk.finish();
    }
}
