import java.util.List;

/** Promise 3, line: each of the refusals, in the order in which they come, and that nothing else changes. */
public final class Promise3RefusalsTest {
    private static final int WRONG_WORDS = -11, NO_ORDER = -12, NOT_YOURS = -13, IS_DONE = -14, NO_ROOM = -15,
            NO_FUNDS = -16, NO_MATCH = -17;

    /** A trade at 20; then 0, 2 and 3 wait in the book, 4 and 5 sleep, 1 and 6 are done; of LEFT 1 has none. */
    private static final String[] BUSY = {"cash 0 300", "goods 0 30", "cash 1 100", "goods 1 30", "sell 1 5 at 20",
        "buy 0 2 at 20", "buy 0 5 at 10 until 9", "sell 0 4 at 30", "stop buy 1 3 at 90", "stop sell 0 3 at 2", "tick 3",
        "buy 1 1 at 9", "cancel 1 6"};
    private static final int BUSY_ORDERS = 7;

    public static void main(String[] args) {
        wrongWordsComeFirst();
        noOrder();
        notYours();
        isDone();
        lessOfTooMuchComesBehind();
        noRoom();
        noFunds();
        noMatch();
        aRefusedLineChangesNothingElse();
        aRefusedLineInAFullHouseChangesNothingElse();
        everyRefusalIsCountedOnce();
        Desk.finish();
    }

    private static Desk busy() {
        return new Desk("busy").lines(BUSY);
    }

    /** All forty orders came, and nobody but trader 0 has cash or goods. */
    private static Desk full() {
        Desk desk = new Desk("full").lines("cash 0 99", "goods 0 99", "sell 0 5 at 5");
        for (int o = 1; o < 40; o++) {
            desk.lines("buy 7 1 any");
        }
        return desk;
    }

    private static void wrongWordsComeFirst() {
        new Desk("before NO ORDER").line("cancel 8 0", WRONG_WORDS).line("less 8 0 0", WRONG_WORDS)
                .line("less 0 0", WRONG_WORDS).line("cancel 0 12345678", WRONG_WORDS).line("less 0 0 x", WRONG_WORDS);
        busy().line("cancel 8 0", WRONG_WORDS).line("less 8 0 1", WRONG_WORDS).line("less 0 0 x", WRONG_WORDS)
                .line("cancel 0 0 0", WRONG_WORDS).line("less 1 6 12345678", WRONG_WORDS).line("less 1 6", WRONG_WORDS);
        full().line("buy 0 0 any", WRONG_WORDS).line("buy 8 1 at 1", WRONG_WORDS).line("sell 0 1 at 0", WRONG_WORDS)
                .line("buy 0 1 at 1 until 0", WRONG_WORDS).line("buy 0 1 at 1 until 100", WRONG_WORDS)
                .line("stop buy 0 1 at 10000", WRONG_WORDS).line("stop sell 0 10000 at 1", WRONG_WORDS)
                .line("stop buy 8 1 at 1", WRONG_WORDS).count(2, 8);
        new Desk("before NO FUNDS").line("take 8 1", WRONG_WORDS).line("take 0 10000000", WRONG_WORDS)
                .line("sell 0 10000 any", WRONG_WORDS).line("sell 8 1 at 1", WRONG_WORDS)
                .line("buy 0 1 at 10000", WRONG_WORDS).line("buy 0 1 at 1 until 100", WRONG_WORDS)
                .line("buy 0 1 at 1 soon", WRONG_WORDS);
        new Desk("before NO MATCH").lines("cash 0 99").line("buy 0 1 at 1 all all", WRONG_WORDS)
                .line("buy 0 0 at 1 all", WRONG_WORDS).line("buy 0 1 at 1 all 1", WRONG_WORDS);
    }

    private static void noOrder() {
        new Desk("none came").line("cancel 0 0", NO_ORDER).line("less 0 0 0", NO_ORDER).line("less 7 39 1", NO_ORDER);
        busy().line("cancel 0 7", NO_ORDER).line("cancel 1 7", NO_ORDER).line("less 0 7 1", NO_ORDER)
                .line("cancel 5 9999999", NO_ORDER).line("less 5 9999999 0", NO_ORDER);
        // A refused order has no number.
        new Desk("refused order").line("sell 0 1 at 1", NO_FUNDS).line("cancel 0 0", NO_ORDER);
    }

    private static void notYours() {
        busy().line("cancel 0 0", NOT_YOURS).line("less 0 0 1", NOT_YOURS).line("cancel 0 4", NOT_YOURS)
                .line("less 0 4 1", NOT_YOURS).line("cancel 7 2", NOT_YOURS).line("less 7 2 1", NOT_YOURS);
        // Before IS DONE: 1 and 6 are done, and belong to 0 and 1.
        busy().line("cancel 1 1", NOT_YOURS).line("less 1 1 0", NOT_YOURS).line("cancel 0 6", NOT_YOURS)
                .line("less 0 6 0", NOT_YOURS).count(2, 4);
    }

    private static void isDone() {
        new Desk("met in full").lines("cash 0 9", "goods 1 9", "sell 1 2 at 3", "buy 0 2 at 3").line("cancel 1 0", IS_DONE)
                .line("cancel 0 1", IS_DONE).line("less 1 0 0", IS_DONE).line("less 0 1 0", IS_DONE);
        new Desk("cancelled").lines("cash 0 9", "buy 0 2 at 3", "cancel 0 0").line("cancel 0 0", IS_DONE)
                .line("less 0 0 1", IS_DONE).line("less 0 0 0", IS_DONE);
        new Desk("ended").lines("cash 0 9", "buy 0 2 at 3 until 1", "tick 1").line("cancel 0 0", IS_DONE)
                .line("less 0 0 1", IS_DONE);
        new Desk("now").lines("cash 0 9", "buy 0 2 at 3 now").line("cancel 0 0", IS_DONE).line("less 0 0 1", IS_DONE);
        new Desk("any").lines("cash 0 9", "buy 0 2 any").line("cancel 0 0", IS_DONE).line("less 0 0 1", IS_DONE);
        new Desk("met its own").lines("cash 0 9", "goods 0 9", "buy 0 2 at 3", "sell 0 1 at 3").line("cancel 0 0", IS_DONE)
                .line("less 0 0 1", IS_DONE);
        new Desk("woken").lines("stop buy 5 2 at 3", "cash 0 9", "goods 1 9", "sell 1 2 at 3", "buy 0 2 at 3")
                .line("cancel 5 0", IS_DONE).line("less 5 0 1", IS_DONE);
        new Desk("a cancelled stop").lines("stop buy 5 2 at 3", "cancel 5 0").line("cancel 5 0", IS_DONE)
                .line("less 5 0 1", IS_DONE);
    }

    /** A less of all that is LEFT is WRONG WORDS, but behind the other refusals. */
    private static void lessOfTooMuchComesBehind() {
        new Desk("NO ORDER").line("less 0 0 9999999", NO_ORDER);
        busy().line("less 0 7 9999999", NO_ORDER).line("less 0 0 9999999", NOT_YOURS).line("less 0 0 3", NOT_YOURS)
                .line("less 0 6 1", NOT_YOURS).line("less 1 6 1", IS_DONE).line("less 1 6 9999999", IS_DONE)
                .line("less 0 1 0", IS_DONE).line("less 0 1 1", IS_DONE).line("less 1 0 3", WRONG_WORDS)
                .line("less 1 0 4", WRONG_WORDS).line("less 1 4 3", WRONG_WORDS).line("less 1 0 2", 1);
    }

    private static void noRoom() {
        full().line("buy 0 1 at 1", NO_ROOM).line("sell 0 1 at 9", NO_ROOM).line("buy 0 1 any", NO_ROOM)
                .line("sell 0 1 any", NO_ROOM).line("stop buy 0 1 at 1", NO_ROOM).line("stop sell 0 1 at 1", NO_ROOM);
        // Before NO FUNDS: trader 7 has nothing.
        full().line("buy 7 1 at 1", NO_ROOM).line("sell 7 1 at 1", NO_ROOM).line("sell 7 1 any", NO_ROOM)
                .line("buy 7 1 at 1 now", NO_ROOM).line("buy 7 1 at 5 all", NO_ROOM).line("buy 7 1 at 5 post", NO_ROOM);
        // Before NO MATCH: trader 0 could pay.
        full().line("buy 0 1 at 1 all", NO_ROOM).line("buy 0 1 at 5 post", NO_ROOM).line("sell 0 1 at 1 all", NO_ROOM);
    }

    private static void noFunds() {
        busy().line("take 0 211", NO_FUNDS).line("buy 0 211 at 1", NO_FUNDS).line("sell 0 29 at 99", NO_FUNDS)
                .line("sell 0 29 any", NO_FUNDS).line("take 0 210", 210).line("sell 0 28 at 99", 7);
        // Before NO MATCH: there is nothing for an all, and something for a post.
        new Desk("all").line("buy 0 1 at 1 all", NO_FUNDS).line("sell 0 1 at 1 all", NO_FUNDS).lines("cash 0 1", "goods 0 1")
                .line("buy 0 1 at 1 all", NO_MATCH).line("sell 0 1 at 1 all", NO_MATCH).count(2, 4);
        new Desk("post").lines("goods 1 9", "sell 1 9 at 5", "cash 2 9", "buy 2 9 at 1").line("buy 0 1 at 5 post", NO_FUNDS)
                .line("sell 0 1 at 1 post", NO_FUNDS).lines("cash 0 5", "goods 0 1").line("buy 0 1 at 5 post", NO_MATCH)
                .line("sell 0 1 at 1 post", NO_MATCH).count(2, 4);
    }

    private static void noMatch() {
        Desk all = new Desk("all").lines("cash 0 99", "goods 1 9", "sell 1 3 at 5", "sell 1 2 at 6");
        all.line("buy 0 4 at 5 all", NO_MATCH).line("buy 0 6 at 6 all", NO_MATCH).line("buy 0 1 at 4 all", NO_MATCH)
                .count(1, 0).line("buy 0 5 at 6 all", 2).count(1, 2).left(2, 0);
        new Desk("all of others").lines("cash 0 99", "goods 0 9", "goods 1 9", "sell 0 5 at 4", "sell 1 3 at 5", "sell 0 4 at 5")
                .line("buy 0 4 at 5 all", NO_MATCH).state(0, 0).state(2, 0).line("buy 0 3 at 5 all", 3).state(0, 2)
                .state(1, 2).state(2, 0).trader(0, 84, 12, 0, 4, 1);
        new Desk("all of own alone").lines("cash 0 99", "goods 0 9", "sell 0 5 at 4").line("buy 0 1 at 4 all", NO_MATCH)
                .state(0, 0);
        new Desk("post").lines("cash 0 99", "goods 1 9", "sell 1 3 at 5").line("buy 0 1 at 5 post", NO_MATCH)
                .line("buy 0 1 at 6 post", NO_MATCH).line("buy 0 1 at 4 post", 1).line("sell 1 1 at 4 post", NO_MATCH)
                .line("sell 1 1 at 5 post", 2).count(1, 0);
        new Desk("post beside an own").lines("cash 0 99", "goods 0 9", "sell 0 3 at 5").line("buy 0 1 at 5 post", NO_MATCH)
                .state(0, 0).line("buy 0 1 at 4 post", 1).line("sell 0 1 at 4 post", NO_MATCH).state(1, 0);
        // Stops are in no book, and done orders are gone from it.
        new Desk("stops are no matches").lines("cash 0 99", "goods 1 9", "stop sell 1 3 at 5").line("buy 0 1 at 9 all", NO_MATCH)
                .line("buy 0 1 at 9 post", 1);
        new Desk("done ones are no matches").lines("cash 0 99", "goods 1 9", "sell 1 3 at 5", "cancel 1 0")
                .line("buy 0 1 at 9 all", NO_MATCH).line("buy 0 1 at 9 post", 1);
    }

    private static void aRefusedLineChangesNothingElse() {
        String[] lines = {"", " ", "nonsense", "tick 100", "cash 8 1", "buy 0 1 at 1 soon", "less 0 2 5", "less 1 4 3",
            "cancel 0 7", "less 0 7 1", "cancel 1 2", "less 0 4 1", "cancel 1 6", "less 0 1 0", "take 0 211",
            "take 1 141", "buy 0 211 at 1", "buy 0 11 at 20", "buy 0 8 at 30 all", "sell 0 29 at 1", "sell 0 29 any",
            "sell 1 28 at 10 now", "buy 0 4 at 20 all", "buy 0 4 at 30 all", "buy 1 1 at 29 all", "sell 0 1 at 10 all",
            "buy 0 1 at 20 post", "buy 0 1 at 30 post", "sell 0 1 at 10 post", "sell 1 1 at 9 post"};
        for (String line : lines) {
            sameSight(busy(), busy(), line, BUSY_ORDERS);
        }
    }

    private static void aRefusedLineInAFullHouseChangesNothingElse() {
        for (String line : new String[] {"buy 0 5 at 5", "sell 0 1 any", "buy 7 1 any", "stop buy 0 1 at 1",
            "buy 1 1 at 9 all", "sell 0 1 at 9 post"}) {
            sameSight(full(), full(), line, 3);
            full().line(line, NO_ROOM).order(39, 7, 0, 1, 0, 2, -1).order(40, -1, -1, -1, -1, -1, -1);
        }
    }

    /** Of two floors alike one refuses a line: both look alike then, but for one refusal more. */
    private static void sameSight(Desk refusing, Desk other, String line, int orders) {
        int answer = refusing.say(line);
        Desk.check(answer <= WRONG_WORDS && answer >= NO_MATCH, "'" + line + "' answered " + answer);
        refusing.count(2, 1);
        other.count(2, 0);
        List<Long> seen = refusing.sight(orders);
        List<Long> due = other.sight(orders);
        Desk.check(seen.equals(due), "'" + line + "' was refused and changed " + due + " to " + seen);
        // What comes next goes on alike, too.
        for (String next : new String[] {"tick 6", "buy 0 1 any", "less 0 3 1"}) {
            refusing.line(next, other.say(next));
        }
    }

    private static void everyRefusalIsCountedOnce() {
        busy().line("x", WRONG_WORDS).count(2, 1).line("less 0 2 5", WRONG_WORDS).count(2, 2).line("cancel 0 9", NO_ORDER)
                .count(2, 3).line("cancel 1 2", NOT_YOURS).count(2, 4).line("cancel 1 6", IS_DONE).count(2, 5)
                .line("take 0 9999", NO_FUNDS).count(2, 6).line("buy 0 1 at 1 all", NO_MATCH).count(2, 7)
                .line("cash 0 1", 1).count(2, 7);
        full().line("buy 0 1 any", NO_ROOM).count(2, 1);
    }
}
