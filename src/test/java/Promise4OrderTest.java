/** Promise 4: order. */
public final class Promise4OrderTest {
    public static void main(String[] args) {
        whatItAnswers();
        whatStaysWhenDone();
        theEnd();
        noSuchOrder();
        noSuchWhat();
        fortyOrders();
        Desk.finish();
    }

    private static Desk six() {
        return new Desk("six").lines("cash 3 100", "goods 5 9", "buy 3 5 at 7 until 9", "sell 5 2 at 8",
                "stop sell 5 6 at 4", "buy 3 1 any", "sell 5 1 at 6 now", "sell 5 1 at 9 now");
    }

    private static void whatItAnswers() {
        six().order(0, 3, 0, 4, 7, 0, 9).order(1, 5, 1, 1, 8, 0, -1).order(2, 5, 1, 6, 4, 1, -1)
                .order(3, 3, 0, 0, 0, 2, -1).order(4, 5, 1, 0, 6, 2, -1).order(5, 5, 1, 1, 9, 2, -1);
        Desk all = new Desk("every trader");
        for (int t = 0; t < 8; t++) {
            all.lines("stop buy " + t + " 9999 at 1", "stop sell " + t + " 1 at 9999");
        }
        for (int t = 0; t < 8; t++) {
            all.order(2 * t, t, 0, 9999, 1, 1, -1).order(2 * t + 1, t, 1, 1, 9999, 1, -1);
        }
    }

    /** LEFT, PRICE and the end stay to be seen. */
    private static void whatStaysWhenDone() {
        six().lines("cancel 3 0", "cancel 5 1", "cancel 5 2").order(0, 3, 0, 4, 7, 2, 9).order(1, 5, 1, 1, 8, 2, -1)
                .order(2, 5, 1, 6, 4, 2, -1);
        six().lines("tick 9").order(0, 3, 0, 4, 7, 2, 9);
        new Desk("met in full").lines("cash 0 99", "goods 1 9", "buy 0 5 at 7 until 9", "sell 1 5 at 7")
                .order(0, 0, 0, 0, 7, 2, 9).lines("tick 10").order(0, 0, 0, 0, 7, 2, 9);
        new Desk("cancelled by its own").lines("cash 0 99", "goods 0 9", "buy 0 5 at 7 until 9", "sell 0 5 at 7")
                .order(0, 0, 0, 5, 7, 2, 9);
        new Desk("woken").lines("stop buy 2 5 at 7", "stop sell 2 4 at 7", "cash 0 99", "goods 1 9", "buy 0 1 at 7",
                "sell 1 1 at 7").order(0, 2, 0, 5, 7, 2, -1).order(1, 2, 1, 4, 7, 2, -1);
        new Desk("lessened").lines("cash 0 99", "buy 0 5 at 7 until 9", "less 0 0 2").order(0, 0, 0, 3, 7, 0, 9)
                .lines("cancel 0 0").order(0, 0, 0, 3, 7, 2, 9);
    }

    private static void theEnd() {
        // An order that was not OPEN when it had met has no end.
        new Desk("met at once").lines("cash 0 99", "goods 1 9", "sell 1 5 at 7").line("buy 0 5 at 7 until 9", 1)
                .order(1, 0, 0, 0, 7, 2, -1).lines("tick 9").orderWhat(1, 5, -1);
        new Desk("met in part").lines("cash 0 99", "goods 1 9", "sell 1 4 at 7", "tick 2").line("buy 0 5 at 7 until 9", 1)
                .order(1, 0, 0, 1, 7, 0, 11);
        new Desk("other ways").lines("cash 0 99", "goods 0 9", "tick 2", "buy 0 1 at 1", "buy 0 1 at 1 post",
                "buy 0 1 at 1 now", "buy 0 1 any", "stop buy 0 1 at 1").orderWhat(0, 5, -1).orderWhat(1, 5, -1)
                .orderWhat(2, 5, -1).orderWhat(3, 5, -1).orderWhat(4, 5, -1);
    }

    private static void noSuchOrder() {
        Desk desk = six();
        for (int o : Edges.outside(5)) {
            desk.order(o, -1, -1, -1, -1, -1, -1).orderWhat(o, -1, -1).orderWhat(o, 6, -1);
        }
        desk.count(2, 0);
        six().order(39, -1, -1, -1, -1, -1, -1).order(40, -1, -1, -1, -1, -1, -1).order(41, -1, -1, -1, -1, -1, -1);
    }

    private static void noSuchWhat() {
        for (int o = 0; o < 6; o++) {
            Desk desk = six();
            for (int what : Edges.outside(5)) {
                desk.orderWhat(o, what, TradeFloor.REFUSED);
            }
            desk.count(2, 0);
        }
    }

    private static void fortyOrders() {
        Desk desk = new Desk("forty");
        for (int o = 0; o < 40; o++) {
            desk.order(o, -1).line("stop buy 3 7 at 9", o).order(o, 3, 0, 7);
        }
        for (int o : Edges.outside(39)) {
            desk.order(o, -1);
        }
    }
}
