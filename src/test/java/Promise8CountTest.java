/** Promise 8: count. */
public final class Promise8CountTest {
    public static void main(String[] args) {
        whatItAnswers();
        ordersThatCame();
        trades();
        everyRefusalIsCounted();
        last();
        now();
        signs();
        stopsThatSleep();
        noSuchWhat();
        Desk.finish();
    }

    private static Desk busy() {
        return new Desk("busy").lines("cash 0 100", "goods 1 90", "buy 0 5 at 7", "sell 1 2 at 7", "sell 1 1 at 6",
                "stop buy 0 1 at 90", "stop sell 1 1 at 2", "stop sell 1 1 at 7", "tick 42");
    }

    private static void whatItAnswers() {
        Desk desk = busy().line("cancel 1 0", -13).line("nonsense", -11).feed("buy 0");
        desk.count(0, 6).count(1, 3).count(2, 2).count(3, 7).count(4, 42).count(5, 5).count(6, 2);
        desk.line(" 1 at 1", 6).count(0, 7).count(5, 0).line("cancel 0 3", 1).count(6, 1).count(2, 2);
    }

    private static void ordersThatCame() {
        Desk desk = new Desk("orders").lines("cash 0 9", "goods 0 9").count(0, 0).lines("buy 0 1 at 1").count(0, 1)
                .lines("buy 0 1 at 1 now").count(0, 2).lines("buy 0 1 any").count(0, 3).lines("stop buy 0 1 at 1").count(0, 4);
        desk.line("buy 0 99 at 1", -16).count(0, 4).lines("cancel 0 0", "cancel 0 3", "tick 1").count(0, 4);
    }

    private static void trades() {
        new Desk("trades").lines("cash 0 99", "goods 1 9", "sell 1 1 at 2", "sell 1 1 at 3").count(1, 0).lines("buy 0 2 any")
                .count(1, 2).lines("buy 0 2 any").count(1, 2).lines("sell 1 1 at 2", "buy 0 1 at 2").count(1, 3);
    }

    private static void everyRefusalIsCounted() {
        new Desk("refusals").lines("cash 0 9", "buy 0 1 at 1").line("x", -11).count(2, 1).line("cancel 0 9", -12)
                .count(2, 2).line("cancel 1 0", -13).count(2, 3).lines("cancel 0 0").line("cancel 0 0", -14).count(2, 4)
                .line("take 0 10", -16).count(2, 5).line("buy 0 1 at 1 all", -17).count(2, 6).count(0, 1);
        Desk often = new Desk("often");
        for (int i = 1; i <= 200; i++) {
            often.line("", -11).count(2, i);
        }
    }

    private static void last() {
        new Desk("last").lines("cash 0 99999", "goods 1 9", "sell 1 1 at 9999", "sell 1 2 at 1").count(3, 0)
                .lines("buy 0 1 any").count(3, 1).lines("buy 0 2 any").count(3, 9999).lines("buy 0 2 any").count(3, 9999)
                .lines("buy 0 1 at 5", "sell 1 1 at 2").count(3, 5).lines("tick 9").count(3, 5);
    }

    private static void now() {
        new Desk("now").lines("tick 1").count(4, 1).lines("tick 99").count(4, 100).line("tick 100", -11).line("tick 0", -11)
                .count(4, 100).lines("cash 0 1").count(4, 100);
    }

    private static void signs() {
        Desk desk = new Desk("signs");
        for (int n = 1; n <= 40; n++) {
            desk.feedWord('x', n).count(5, n);
        }
        desk.feedWord('x', -3).count(5, 40).feedWord(0, 40).count(5, 40).line("", -11).count(5, 0);
        new Desk("after lines").line("cash 0 1", 1).count(5, 0).line("take 0 2", -16).count(5, 0);
    }

    private static void stopsThatSleep() {
        Desk desk = new Desk("stops");
        for (int n = 1; n <= 40; n++) {
            desk.lines("stop buy 0 1 at 9999").count(6, n);
        }
        desk.line("stop buy 0 1 at 9999", -15).count(6, 40).lines("cancel 0 39").count(6, 39).line("cancel 0 39", -14)
                .count(6, 39);
        new Desk("woken").lines("stop buy 2 1 at 5", "stop buy 2 1 at 6", "cash 0 9", "goods 1 9", "buy 0 1 at 5").count(6, 2)
                .lines("sell 1 1 at 5").count(6, 1);
    }

    private static void noSuchWhat() {
        Desk desk = busy();
        for (int what : Edges.outside(6)) {
            desk.count(what, TradeFloor.REFUSED);
        }
        desk.count(2, 0);
    }
}
