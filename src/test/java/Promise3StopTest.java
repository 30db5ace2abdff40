/** Promise 3, line: stops, how they sleep and when they wake. */
public final class Promise3StopTest {
    public static void main(String[] args) {
        sleepsAndHoldsNothing();
        wakesByTheLastPrice();
        wakesAtOnce();
        noneWakesWithoutATrade();
        oneWakesAnother();
        lowestNumberFirst();
        sellsWhatThereIs();
        buysWhatItCanPay();
        refusedLinesWakeNothing();
        Desk.finish();
    }

    /** A trade of one at a price, between traders 6 and 7 alone. */
    private static Desk tradeAt(Desk desk, int price) {
        return desk.lines("cash 6 " + price, "goods 7 1", "sell 7 1 at " + price, "buy 6 1 at " + price);
    }

    private static void sleepsAndHoldsNothing() {
        new Desk("sleeps").line("stop buy 0 5 at 7", 0).line("stop sell 1 4 at 3", 1).order(0, 0, 0, 5, 7, 1, -1)
                .order(1, 1, 1, 4, 3, 1, -1).trader(0, 0, 0, 0, 0, 1).trader(1, 0, 0, 0, 0, 1).count(6, 2).count(0, 2)
                .noLevel(0, 0).noLevel(1, 0).lines("goods 2 5", "cash 2 99").line("sell 2 5 at 7", 2)
                .line("buy 2 1 at 3 post", 3).count(1, 0);
    }

    private static void wakesByTheLastPrice() {
        tradeAt(new Desk("buy below").lines("stop buy 0 5 at 7"), 6).state(0, 1).count(6, 1);
        tradeAt(new Desk("buy at").lines("stop buy 0 5 at 7"), 7).order(0, 0, 0, 5, 7, 2, -1).count(6, 0);
        tradeAt(new Desk("buy above").lines("stop buy 0 5 at 7"), 8).state(0, 2).trader(0, 0, 0, 0, 0, 0);
        tradeAt(new Desk("sell above").lines("stop sell 0 5 at 7"), 8).state(0, 1).count(6, 1);
        tradeAt(new Desk("sell at").lines("stop sell 0 5 at 7"), 7).order(0, 0, 1, 5, 7, 2, -1).count(6, 0);
        tradeAt(new Desk("sell below").lines("stop sell 0 5 at 7"), 6).state(0, 2);

        tradeAt(new Desk("least").lines("stop sell 0 5 at 1", "stop buy 0 5 at 1"), 1).state(0, 2).state(1, 2);
        tradeAt(new Desk("above the least").lines("stop sell 0 5 at 1", "stop buy 0 5 at 3"), 2).state(0, 1).state(1, 1);
        tradeAt(new Desk("greatest").lines("stop buy 0 5 at 9999", "stop sell 0 5 at 9999"), 9999).state(0, 2).state(1, 2);
        tradeAt(new Desk("below the greatest").lines("stop buy 0 5 at 9999", "stop sell 0 5 at 9997"), 9998).state(0, 1)
                .state(1, 1);

        // Woken, it takes any price, not its own.
        tradeAt(new Desk("any price").lines("cash 0 99", "goods 1 9", "sell 1 2 at 20", "stop buy 0 3 at 7"), 7)
                .order(1, 0, 0, 1, 7, 2, -1).trade(1, 0, 1, 20, 2).count(3, 20).trader(0, 59, 2, 0, 0, 0);
        tradeAt(new Desk("any price for a sell").lines("goods 0 9", "cash 1 9", "buy 1 2 at 2", "stop sell 0 3 at 7"), 7)
                .order(1, 0, 1, 1, 7, 2, -1).trade(1, 1, 0, 2, 2).count(3, 2).trader(0, 4, 7, 0, 0, 0);
    }

    private static void wakesAtOnce() {
        tradeAt(new Desk("at once"), 7).lines("cash 0 99", "goods 1 9", "sell 1 2 at 9").line("stop buy 0 3 at 7", 3)
                .order(3, 0, 0, 1, 7, 2, -1).trade(1, 0, 1, 9, 2).count(6, 0).line("stop sell 0 1 at 9", 4)
                .state(4, 2).left(4, 1).line("stop sell 0 1 at 8", 5).state(5, 1).line("stop buy 0 1 at 10", 6)
                .state(6, 1).count(6, 2);
    }

    private static void noneWakesWithoutATrade() {
        new Desk("last is 0").line("stop sell 0 5 at 9999", 0).line("tick 99", 0).line("cash 0 5", 5).state(0, 1)
                .line("stop buy 0 5 at 1", 1).state(1, 1).count(6, 2);
    }

    private static void oneWakesAnother() {
        // The buy stop at 7 trades at 12, which wakes the one at 12, which trades at 15 and wakes the one at 15.
        Desk desk = new Desk("chain").lines("cash 0 999", "goods 1 9", "sell 1 1 at 12", "sell 1 1 at 15",
                "stop buy 0 1 at 15", "stop buy 0 1 at 12", "stop buy 0 1 at 7", "stop buy 0 1 at 16");
        tradeAt(desk, 7).state(4, 2).left(4, 0).state(3, 2).left(3, 0).state(2, 2).left(2, 1).state(5, 1).count(6, 1)
                .trade(1, 0, 1, 12, 1).trade(2, 0, 1, 15, 1).noTrade(3).count(3, 15);
        // A stop that the next price would leave asleep again is not done.
        Desk back = new Desk("moved away").lines("cash 0 999", "goods 2 9", "cash 1 999", "goods 0 9", "sell 2 1 at 12",
                "stop buy 0 1 at 7", "stop sell 0 1 at 7", "buy 1 1 at 3");
        tradeAt(back, 7).state(1, 2).left(1, 0).count(3, 12).state(2, 1).state(3, 0);
    }

    private static void lowestNumberFirst() {
        Desk desk = new Desk("lowest number").lines("cash 0 999", "cash 1 999", "goods 2 9", "sell 2 1 at 9",
                "sell 2 1 at 10", "stop buy 1 1 at 7", "stop buy 0 1 at 5");
        tradeAt(desk, 7).trade(1, 1, 2, 9, 1).trade(2, 0, 2, 10, 1);
        // The stop with the lowest number is looked for anew behind each one that is done.
        Desk anew = new Desk("anew").lines("cash 0 999", "cash 1 999", "cash 3 999", "goods 2 9", "sell 2 1 at 9",
                "sell 2 1 at 10", "sell 2 1 at 11", "stop buy 0 1 at 9", "stop buy 1 1 at 7", "stop buy 3 1 at 7");
        tradeAt(anew, 7).trade(1, 1, 2, 9, 1).trade(2, 0, 2, 10, 1).trade(3, 3, 2, 11, 1);
    }

    private static void sellsWhatThereIs() {
        tradeAt(new Desk("fewer goods").lines("goods 0 9", "cash 1 99", "buy 1 9 at 5", "sell 0 6 at 20",
                "stop sell 0 8 at 7"), 7).order(2, 0, 1, 5, 7, 2, -1).left(0, 6).trade(1, 1, 0, 5, 3).noTrade(2)
                .trader(0, 15, 6, 0, 6, 1);
        tradeAt(new Desk("no goods").lines("cash 0 99", "cash 1 99", "buy 1 9 at 5", "buy 0 1 at 6",
                "stop sell 0 8 at 7"), 7).order(2, 0, 1, 8, 7, 2, -1).left(0, 9).state(1, 0).noTrade(1).count(6, 0);
        tradeAt(new Desk("just enough").lines("goods 0 3", "cash 1 99", "buy 1 9 at 5", "stop sell 0 3 at 7"), 7)
                .left(1, 0).left(0, 6).trader(0, 15, 0, 0, 0, 0);
    }

    private static void buysWhatItCanPay() {
        tradeAt(new Desk("short of cash").lines("cash 0 25", "goods 1 9", "sell 1 9 at 9", "stop buy 0 4 at 7"), 7)
                .order(1, 0, 0, 2, 7, 2, -1).trade(1, 0, 1, 9, 2).trader(0, 7, 2, 0, 0, 0);
        tradeAt(new Desk("own on the way").lines("goods 0 2", "goods 1 9", "sell 0 2 at 8", "sell 1 9 at 9",
                "stop buy 0 4 at 7"), 7).state(0, 2).state(1, 0).left(2, 4).trader(0, 0, 2, 0, 0, 0);
    }

    private static void refusedLinesWakeNothing() {
        Desk desk = new Desk("refused").lines("stop buy 0 5 at 7").line("take 0 1", -16).state(0, 1);
        tradeAt(desk, 6).line("sell 7 1 at 9", -16).state(0, 1).count(6, 1).line("cancel 0 0", 5).state(0, 2)
                .count(6, 0);
        tradeAt(desk, 8).left(0, 5).count(1, 2);
    }
}
