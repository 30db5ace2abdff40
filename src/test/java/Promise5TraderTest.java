/** Promise 5: trader. */
public final class Promise5TraderTest {
    public static void main(String[] args) {
        Desk desk = new Desk("traders").lines("cash 0 100", "goods 7 20", "buy 0 5 at 7", "sell 7 6 at 9",
                "stop buy 0 1 at 99", "stop sell 7 1 at 1", "sell 7 2 at 7", "buy 0 3 at 9");
        desk.trader(0, 59, 5, 21, 0, 2).trader(7, 41, 15, 0, 3, 2);
        for (int t = 1; t < 7; t++) {
            desk.trader(t, 0, 0, 0, 0, 0);
        }
        int[] noTraders = {-1, 8, Integer.MAX_VALUE, Integer.MIN_VALUE};
        for (int t : noTraders) {
            desk.trader(t, -1, -1, -1, -1, -1);
        }
        int[] noWhats = {-1, 5, Integer.MAX_VALUE, Integer.MIN_VALUE};
        for (int what : noWhats) {
            desk.due("trader(0, " + what + ")", desk.floor.trader(0, what), -1);
        }
        desk.count(2, 0);
        Desk.finish();
    }
}
