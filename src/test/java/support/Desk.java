import java.nio.charset.StandardCharsets;
import java.util.ArrayList;
import java.util.List;

/** A new floor with short ways to speak to it; every answer that is not the one due is printed and counted. */
final class Desk {
    private static final int CALLS_PROMISED = 512;
    private static int checks = 0;
    private static int wrong = 0;

    final TradeFloor floor = new TradeFloor();
    private final String name;
    private int calls = 0;

    Desk(String name) {
        this.name = name;
    }

    int calls() {
        return calls;
    }

    /** Feeds the signs of a text, four a word, the last word filled with 0. */
    Desk feed(String text) {
        byte[] signs = text.getBytes(StandardCharsets.ISO_8859_1);
        for (int i = 0; i < signs.length; i += 4) {
            int word = 0;
            for (int j = i; j < i + 4; j++) {
                word = word << 8 | (j < signs.length ? signs[j] & 255 : 0);
            }
            called();
            floor.feed(word);
        }
        return this;
    }

    Desk feedWord(int word, int due) {
        called();
        return due("feed(" + word + ")", floor.feed(word), due);
    }

    int say(String text) {
        feed(text);
        called();
        return floor.line();
    }

    Desk line(String text, int due) {
        return due("line '" + text + "'", say(text), due);
    }

    /** Lines that are taken, where the answer is no matter of the test. */
    Desk lines(String... texts) {
        for (String text : texts) {
            int answer = say(text);
            if (answer < 0) {
                due("line '" + text + "' taken", answer, 0);
            }
        }
        return this;
    }

    /** Trader, side, LEFT, price, state, end. */
    Desk order(int o, int... due) {
        for (int what = 0; what < due.length; what++) {
            orderWhat(o, what, due[what]);
        }
        return this;
    }

    Desk orderWhat(int o, int what, int due) {
        called();
        return due("order(" + o + ", " + what + ")", floor.order(o, what), due);
    }

    Desk left(int o, int due) {
        return orderWhat(o, 2, due);
    }

    Desk state(int o, int due) {
        return orderWhat(o, 4, due);
    }

    /** CASH, GOODS, HELD CASH, HELD GOODS, waiting orders. */
    Desk trader(int t, long... due) {
        for (int what = 0; what < due.length; what++) {
            traderWhat(t, what, due[what]);
        }
        return this;
    }

    Desk traderWhat(int t, int what, long due) {
        called();
        return due("trader(" + t + ", " + what + ")", floor.trader(t, what), due);
    }

    /** Price, LEFT, orders. */
    Desk level(int side, int k, int... due) {
        for (int what = 0; what < due.length; what++) {
            levelWhat(side, k, what, due[what]);
        }
        return this;
    }

    Desk levelWhat(int side, int k, int what, int due) {
        called();
        return due("level(" + side + ", " + k + ", " + what + ")", floor.level(side, k, what), due);
    }

    Desk noLevel(int side, int k) {
        return level(side, k, -1, -1, -1);
    }

    /** Buyer, seller, price, quantity. */
    Desk trade(int k, int... due) {
        for (int what = 0; what < due.length; what++) {
            tradeWhat(k, what, due[what]);
        }
        return this;
    }

    Desk tradeWhat(int k, int what, int due) {
        called();
        return due("trade(" + k + ", " + what + ")", floor.trade(k, what), due);
    }

    Desk noTrade(int k) {
        return trade(k, -1, -1, -1, -1);
    }

    Desk count(int what, int due) {
        called();
        return due("count(" + what + ")", floor.count(what), due);
    }

    /** Whatever can be seen of a floor with so many orders, but for the count of refusals. */
    List<Long> sight(int orders) {
        List<Long> seen = new ArrayList<>();
        for (int what : new int[] {0, 1, 3, 4, 5, 6}) {
            called();
            seen.add((long) floor.count(what));
        }
        for (int t = 0; t < 8; t++) {
            for (int what = 0; what < 5; what++) {
                called();
                seen.add(floor.trader(t, what));
            }
        }
        for (int o = 0; o <= orders; o++) {
            for (int what = 0; what < 6; what++) {
                called();
                seen.add((long) floor.order(o, what));
            }
        }
        seeBookAndTrades(seen);
        return seen;
    }

    private void seeBookAndTrades(List<Long> seen) {
        for (int k = 0; k < 6; k++) {
            for (int what = 0; what < 3; what++) {
                called();
                seen.add((long) floor.level(0, k, what));
                called();
                seen.add((long) floor.level(1, k, what));
            }
            for (int what = 0; what < 4; what++) {
                called();
                seen.add((long) floor.trade(k, what));
            }
        }
    }

    Desk due(String call, long got, long due) {
        check(got == due, name + ": " + call + " answered " + got + ", due is " + due);
        return this;
    }

    static void check(boolean holds, String complaint) {
        checks++;
        if (!holds) {
            wrong++;
            System.out.println(complaint);
        }
    }

    static void finish() {
        System.out.println(checks + " checks, " + wrong + " wrong");
        if (wrong != 0 || checks == 0) {
            System.exit(1);
        }
    }

    private void called() {
        calls++;
        if (calls > CALLS_PROMISED) {
            check(false, name + ": a test with more calls than the document promises");
        }
    }
}
