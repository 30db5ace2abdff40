/** Promise 5: trader. */
public final class Promise5TraderTest {
    public static void main(String[] args) {
        whatItAnswers();
        firstAndLastTrader();
        waitingOrders();
        noSuchTrader();
        noSuchWhat();
        Desk.finish();
    }

    private static Desk busy() {
        return new Desk("busy").lines("cash 0 100", "goods 7 20", "buy 0 5 at 7", "sell 7 6 at 9", "stop buy 0 1 at 99",
                "stop sell 7 1 at 1", "sell 7 2 at 7", "buy 0 3 at 9");
    }

    private static void whatItAnswers() {
        Desk desk = busy().trader(0, 59, 5, 21, 0, 2).trader(7, 41, 15, 0, 3, 2);
        for (int t = 1; t < 7; t++) {
            desk.trader(t, 0, 0, 0, 0, 0);
        }
    }

    private static void firstAndLastTrader() {
        for (int t = 0; t < 8; t++) {
            Desk desk = new Desk("trader " + t).lines("cash " + t + " 9999999", "goods " + t + " 9999999",
                    "buy " + t + " 9999 at 5", "sell " + t + " 9999 at 6", "stop buy " + t + " 1 at 1");
            for (int other = 0; other < 8; other++) {
                if (other == t) {
                    desk.trader(t, 9999999, 9999999, 49995, 9999, 3);
                } else {
                    desk.trader(other, 0, 0, 0, 0, 0);
                }
            }
        }
    }

    /** OPEN orders and STOPS, none that is DONE. */
    private static void waitingOrders() {
        Desk desk = new Desk("waiting").lines("cash 4 999", "goods 4 99").traderWhat(4, 4, 0);
        desk.lines("buy 4 1 at 1").traderWhat(4, 4, 1).lines("sell 4 1 at 9").traderWhat(4, 4, 2)
                .lines("stop buy 4 1 at 9").traderWhat(4, 4, 3).lines("stop sell 4 1 at 1").traderWhat(4, 4, 4)
                .lines("buy 4 1 at 2 now").traderWhat(4, 4, 4).lines("less 4 0 0").traderWhat(4, 4, 4)
                .lines("cancel 4 0").traderWhat(4, 4, 3).lines("cancel 4 2").traderWhat(4, 4, 2).lines("buy 4 1 any")
                .traderWhat(4, 4, 1).lines("cancel 4 3").traderWhat(4, 4, 0);
        Desk forty = new Desk("forty waiting");
        for (int o = 1; o <= 40; o++) {
            forty.lines("stop buy 6 1 at 1").traderWhat(6, 4, o);
        }
        forty.traderWhat(5, 4, 0).traderWhat(7, 4, 0);
    }

    private static void noSuchTrader() {
        Desk desk = busy();
        for (int t : Edges.outside(7)) {
            desk.trader(t, -1, -1, -1, -1, -1).traderWhat(t, -1, -1).traderWhat(t, 5, -1);
        }
        desk.count(2, 0);
    }

    private static void noSuchWhat() {
        for (int t = 0; t < 8; t++) {
            Desk desk = busy();
            for (int what : Edges.outside(4)) {
                desk.traderWhat(t, what, -1);
            }
            desk.count(2, 0);
        }
    }
}
