/** Promise 8: count. */
public final class Promise8CountTest {
    public static void main(String[] args) {
        Desk desk = new Desk("counts").lines("cash 0 100", "goods 1 90", "buy 0 5 at 7", "sell 1 2 at 7", "sell 1 1 at 6",
                "stop buy 0 1 at 90", "stop sell 1 1 at 2", "stop sell 1 1 at 7", "tick 42");
        desk.line("cancel 1 0", -13).line("nonsense", -11).feed("buy 0");
        desk.count(0, 6).count(1, 3).count(2, 2).count(3, 7).count(4, 42).count(5, 5).count(6, 2);
        desk.line(" 1 at 1", 6).count(0, 7).count(5, 0).line("cancel 0 3", 1).count(6, 1).count(2, 2);

        int[] noWhats = {-1, 7, Integer.MAX_VALUE, Integer.MIN_VALUE};
        for (int what : noWhats) {
            desk.count(what, TradeFloor.REFUSED);
        }
        desk.count(2, 2);
        everyRefusalIsCounted();
        Desk.finish();
    }

    private static void everyRefusalIsCounted() {
        new Desk("refusals").lines("cash 0 9", "buy 0 1 at 1").line("x", -11).count(2, 1).line("cancel 0 9", -12)
                .count(2, 2).line("cancel 1 0", -13).count(2, 3).lines("cancel 0 0").line("cancel 0 0", -14).count(2, 4)
                .line("take 0 10", -16).count(2, 5).line("buy 0 1 at 1 all", -17).count(2, 6).count(0, 1);
    }
}
