/** Promise 6: level. */
public final class Promise6LevelTest {
    public static void main(String[] args) {
        Desk desk = new Desk("levels").lines("cash 0 500", "cash 1 500", "goods 2 90", "goods 3 90", "buy 0 5 at 7",
                "buy 1 2 at 9", "buy 1 3 at 7", "buy 0 1 at 8", "sell 2 4 at 12", "sell 3 1 at 10", "sell 2 6 at 12",
                "sell 3 2 at 11", "stop buy 0 5 at 50", "stop sell 2 5 at 1");
        desk.level(0, 0, 9, 2, 1).level(0, 1, 8, 1, 1).level(0, 2, 7, 8, 2).noLevel(0, 3);
        desk.level(1, 0, 10, 1, 1).level(1, 1, 11, 2, 1).level(1, 2, 12, 10, 2).noLevel(1, 3);

        desk.lines("sell 3 4 at 8").level(0, 0, 7, 8, 2).noLevel(0, 1).level(1, 0, 8, 1, 1).level(1, 3, 12, 10, 2)
                .noLevel(1, 4);
        desk.lines("cancel 1 2").level(0, 0, 7, 5, 1).lines("cancel 0 0").noLevel(0, 0);

        int[] noRows = {-1, 40, 41, Integer.MAX_VALUE, Integer.MIN_VALUE};
        for (int k : noRows) {
            desk.noLevel(0, k).noLevel(1, k);
        }
        int[] noSides = {-1, 2, Integer.MAX_VALUE, Integer.MIN_VALUE};
        for (int side : noSides) {
            desk.noLevel(side, 0);
        }
        int[] noWhats = {-1, 3, Integer.MAX_VALUE, Integer.MIN_VALUE};
        for (int what : noWhats) {
            desk.due("level(1, 0, " + what + ")", desk.floor.level(1, 0, what), TradeFloor.REFUSED);
        }
        desk.count(2, 0);
        fortyLevels();
        Desk.finish();
    }

    private static void fortyLevels() {
        Desk desk = new Desk("forty levels").lines("cash 0 9999");
        for (int price = 1; price <= 40; price++) {
            desk.lines("buy 0 1 at " + price);
        }
        desk.level(0, 0, 40, 1, 1).level(0, 39, 1, 1, 1).noLevel(0, 40);
    }
}
