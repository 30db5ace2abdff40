/** Promise 1: empty books, empty hands. What every call answers on an object that has just been made. */
public final class Promise1NewObjectTest {
    private static final int WRONG_WORDS = -11, NO_ORDER = -12, NO_FUNDS = -16;

    public static void main(String[] args) {
        countsAreZero();
        handsAreEmpty();
        thereAreNoOrders();
        theBooksAreEmpty();
        thereAreNoTrades();
        theTapeHasNoSigns();
        looksAreNoRefusals();
        firstLines();
        twoObjectsShareNothing();
        Desk.finish();
    }

    private static void countsAreZero() {
        Desk desk = new Desk("counts");
        for (int what = 0; what <= 6; what++) {
            desk.count(what, 0);
        }
        for (int what : Edges.outside(6)) {
            desk.count(what, TradeFloor.REFUSED);
        }
    }

    private static void handsAreEmpty() {
        Desk desk = new Desk("hands");
        for (int t = 0; t < 8; t++) {
            desk.trader(t, 0, 0, 0, 0, 0);
            for (int what : Edges.outside(4)) {
                desk.traderWhat(t, what, -1);
            }
        }
        Desk others = new Desk("hands of others");
        for (int t : Edges.outside(7)) {
            others.trader(t, -1, -1, -1, -1, -1).traderWhat(t, -1, -1).traderWhat(t, 5, -1);
        }
    }

    private static void thereAreNoOrders() {
        Desk desk = new Desk("orders");
        for (int o = 0; o <= 40; o++) {
            desk.order(o, -1, -1, -1, -1, -1, -1);
        }
        Desk others = new Desk("other orders");
        for (int o : Edges.outside(39)) {
            others.order(o, -1, -1, -1, -1, -1, -1);
        }
        for (int what : Edges.outside(5)) {
            others.orderWhat(0, what, -1);
        }
    }

    private static void theBooksAreEmpty() {
        for (int side = 0; side <= 1; side++) {
            Desk desk = new Desk("book");
            for (int k = 0; k <= 40; k++) {
                desk.noLevel(side, k).levelWhat(side, k, -1, -1).levelWhat(side, k, 3, -1);
            }
            for (int k : Edges.outside(39)) {
                desk.noLevel(side, k);
            }
        }
        Desk others = new Desk("other books");
        for (int side : Edges.outside(1)) {
            others.noLevel(side, 0).noLevel(side, -1).noLevel(side, 40);
        }
    }

    private static void thereAreNoTrades() {
        Desk desk = new Desk("trades");
        for (int k = 0; k <= 40; k++) {
            desk.noTrade(k).tradeWhat(k, -1, -1).tradeWhat(k, 4, -1);
        }
        for (int k : Edges.outside(199)) {
            desk.noTrade(k);
        }
    }

    private static void theTapeHasNoSigns() {
        new Desk("a word of zeros").feedWord(0, 0).count(5, 0);
        new Desk("one sign").feedWord(0x00000041, 1).count(5, 1);
        new Desk("four signs").feedWord(0x41414141, 4).count(5, 4);
        new Desk("no line").line("", WRONG_WORDS).count(2, 1).count(5, 0).line("", WRONG_WORDS).count(2, 2);
    }

    private static void looksAreNoRefusals() {
        new Desk("looks").order(0, -1).trader(8, -1).level(0, 0, -1).trade(0, -1).count(7, -1).count(2, 0);
    }

    private static void firstLines() {
        new Desk("cash").line("cash 0 0", 0).line("cash 7 1", 1).trader(7, 1, 0, 0, 0, 0);
        new Desk("goods").line("goods 0 0", 0).line("goods 7 1", 1).trader(7, 0, 1, 0, 0, 0);
        new Desk("take").line("take 0 1", NO_FUNDS).line("take 0 0", 0).trader(0, 0, 0, 0, 0, 0);
        new Desk("cancel").line("cancel 0 0", NO_ORDER).count(0, 0);
        new Desk("less").line("less 0 0 0", NO_ORDER).count(0, 0);
        new Desk("tick").line("tick 1", 0).count(4, 1);
        new Desk("stops").line("stop buy 0 1 at 1", 0).line("stop sell 0 1 at 9999", 1).count(6, 2).count(3, 0);
        new Desk("any").line("sell 0 1 any", NO_FUNDS).line("buy 0 1 any", 0).order(0, 0, 0, 1, 0, 2, -1).count(1, 0);
        for (String way : new String[] {"", " now", " all", " post", " until 1"}) {
            new Desk("limits" + way).line("buy 0 1 at 1" + way, NO_FUNDS).line("sell 0 1 at 1" + way, NO_FUNDS)
                    .count(0, 0).count(2, 2).noLevel(0, 0).noLevel(1, 0);
        }
    }

    private static void twoObjectsShareNothing() {
        Desk one = new Desk("one");
        Desk other = new Desk("other");
        one.lines("cash 0 100", "goods 1 5", "buy 0 5 at 9", "sell 1 2 at 9", "tick 3").feed("buy");
        one.count(0, 2).count(1, 1).count(3, 9).count(4, 3).count(5, 3);
        other.count(0, 0).count(1, 0).count(3, 0).count(4, 0).count(5, 0).trader(0, 0, 0, 0, 0, 0);
        other.noLevel(0, 0).noTrade(0).order(0, -1);
    }
}
