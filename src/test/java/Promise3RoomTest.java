/** Promise 3, line: at most 40 ORDERS, whatever has become of them. */
public final class Promise3RoomTest {
    private static final int WRONG_WORDS = -11, NO_ORDER = -12, IS_DONE = -14, NO_ROOM = -15;

    private static final String[] ORDERS = {"buy 0 1 at 1", "sell 0 1 at 9", "buy 0 1 at 1 now", "sell 0 1 at 9 now",
        "buy 0 1 at 1 post", "sell 0 1 at 9 post", "buy 0 1 at 1 until 9", "sell 0 1 at 9 until 9", "buy 0 1 any",
        "sell 0 1 any", "stop buy 0 1 at 9", "stop sell 0 1 at 1"};

    public static void main(String[] args) {
        fortyOfEachKind();
        eachKindAsTheFortyFirst();
        doneOrdersKeepTheirRoom();
        refusedOrdersTakeNoNumber();
        theFortiethOrderTrades();
        stopsWakeInAFullHouse();
        Desk.finish();
    }

    private static Desk rich() {
        return new Desk("rich").lines("cash 0 999", "goods 0 999");
    }

    private static void fortyOfEachKind() {
        for (String order : ORDERS) {
            Desk desk = rich();
            for (int o = 0; o < 40; o++) {
                desk.line(order, o);
            }
            desk.count(0, 40).line(order, NO_ROOM).line(order, NO_ROOM).count(0, 40).count(2, 2)
                    .order(39, 0, order.contains("sell") ? 1 : 0, 1).order(40, -1, -1, -1, -1, -1, -1);
        }
    }

    private static Desk full() {
        Desk desk = rich();
        for (int o = 0; o < 39; o++) {
            desk.line("buy 7 1 any", o);
        }
        return desk.line("sell 0 5 at 5", 39);
    }

    private static void eachKindAsTheFortyFirst() {
        for (String order : ORDERS) {
            full().line(order, NO_ROOM).count(0, 40).count(2, 1).trader(0, 999, 999, 0, 5, 1).level(1, 0, 5, 5, 1)
                    .noLevel(0, 0).count(6, 0);
        }
        full().line("buy 7 1 at 5 all", NO_ROOM).line("sell 0 1 at 1 all", NO_ROOM).count(1, 0);
        // The other lines need no room.
        full().line("cash 0 1", 1).line("goods 0 1", 1).line("take 0 1000", 1000).line("tick 1", 0)
                .line("less 0 39 1", 4).line("cancel 0 39", 4).line("cancel 0 39", IS_DONE)
                .line("cancel 0 40", NO_ORDER).line("buy 0 0 any", WRONG_WORDS).count(2, 3);
    }

    private static void doneOrdersKeepTheirRoom() {
        Desk desk = rich().lines("goods 1 99");
        for (int o = 0; o < 40; o += 2) {
            desk.line("sell 1 1 at 3", o).line("buy 0 1 at 3", o + 1);
        }
        desk.count(1, 20).line("buy 0 1 any", NO_ROOM).trader(0, 939, 1019, 0, 0, 0).trader(1, 60, 79, 0, 0, 0);
        Desk cancelled = rich();
        for (int o = 0; o < 40; o++) {
            cancelled.line("buy 0 1 at 3", o).line("cancel 0 " + o, 1);
        }
        cancelled.line("buy 0 1 at 3", NO_ROOM).trader(0, 999, 999, 0, 0, 0);
    }

    private static void refusedOrdersTakeNoNumber() {
        Desk desk = new Desk("numbers").lines("cash 0 99");
        for (int o = 0; o < 10; o++) {
            desk.line("sell 0 1 at 1", -16).line("buy 0 1 at 1 all", -17).line("buy 0 0 at 1", -11)
                    .line("buy 0 1 at 1", o).count(0, o + 1);
        }
        desk.count(2, 30);
    }

    private static void theFortiethOrderTrades() {
        Desk desk = new Desk("fortieth").lines("cash 1 999", "goods 0 99");
        for (int o = 0; o < 39; o++) {
            desk.line("sell 0 2 at " + (o + 1), o);
        }
        desk.line("buy 1 9 any", 39).count(1, 5).left(4, 1).trade(4, 1, 0, 5, 1).order(39, 1, 0, 0, 0, 2, -1)
                .line("buy 1 1 any", NO_ROOM);
        Desk last = new Desk("fortieth stays");
        for (int o = 0; o < 39; o++) {
            last.line("buy 0 1 any", o);
        }
        last.lines("cash 0 20").line("buy 0 2 at 9 until 9", 39).level(0, 0, 9, 2, 1).trader(0, 20, 0, 18, 0, 1)
                .line("tick 9", 1).trader(0, 20, 0, 0, 0, 0);
    }

    /** Forty orders of which 37 stops wake each other, one behind the other. */
    private static void stopsWakeInAFullHouse() {
        Desk desk = new Desk("full of stops").lines("cash 0 999", "goods 1 99", "sell 1 1 at 5", "sell 1 37 at 6");
        for (int o = 2; o < 39; o++) {
            desk.line("stop buy 0 1 at " + (o == 38 ? 5 : 6), o);
        }
        desk.count(6, 37).line("buy 0 1 any", 39).count(6, 0).count(1, 38).count(3, 6).left(38, 0).left(2, 0)
                .left(1, 0).trader(0, 999 - 5 - 37 * 6, 38, 0, 0, 0).trade(1, 0, 1, 6, 1).trade(37, 0, 1, 6, 1).noTrade(38);
    }
}
