/** Promise 1: empty books, empty hands. */
public final class Promise1NewObjectTest {
    public static void main(String[] args) {
        Desk desk = new Desk("new");
        for (int what = 0; what <= 6; what++) {
            desk.count(what, 0);
        }
        for (int t = 0; t < 8; t++) {
            desk.trader(t, 0, 0, 0, 0, 0);
        }
        desk.order(0, -1, -1, -1, -1, -1, -1).noLevel(0, 0).noLevel(1, 0).noTrade(0);

        twoObjectsShareNothing();
        Desk.finish();
    }

    private static void twoObjectsShareNothing() {
        Desk one = new Desk("one");
        Desk other = new Desk("other");
        one.lines("cash 0 100", "goods 1 5", "buy 0 5 at 9", "sell 1 2 at 9", "tick 3").feed("buy");
        one.count(0, 2).count(1, 1).count(3, 9).count(4, 3).count(5, 3);
        other.count(0, 0).count(1, 0).count(3, 0).count(4, 0).count(5, 0).trader(0, 0, 0, 0, 0, 0);
        other.noLevel(0, 0).noTrade(0).order(0, -1);
    }
}
