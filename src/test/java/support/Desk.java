import java.nio.charset.StandardCharsets;

/** A new floor with short ways to speak to it; every answer that is not the one due is printed and counted. */
final class Desk {
    private static final int CALLS_PROMISED = 512;
    private static int checks = 0;
    private static int wrong = 0;

    final TradeFloor floor = new TradeFloor();
    private final String name;
    private int calls = 0;

    Desk(String name) {
        this.name = name;
    }

    int calls() {
        return calls;
    }

    /** Feeds the signs of a text, four a word, the last word filled with 0. */
    Desk feed(String text) {
        byte[] signs = text.getBytes(StandardCharsets.ISO_8859_1);
        for (int i = 0; i < signs.length; i += 4) {
            int word = 0;
            for (int j = i; j < i + 4; j++) {
                word = word << 8 | (j < signs.length ? signs[j] & 255 : 0);
            }
            called();
            floor.feed(word);
        }
        return this;
    }

    Desk feedWord(int word, int due) {
        called();
        return due("feed(" + word + ")", floor.feed(word), due);
    }

    int say(String text) {
        feed(text);
        called();
        return floor.line();
    }

    Desk line(String text, int due) {
        return due("line '" + text + "'", say(text), due);
    }

    /** Lines that are taken, where the answer is no matter of the test. */
    Desk lines(String... texts) {
        for (String text : texts) {
            int answer = say(text);
            if (answer < 0) {
                due("line '" + text + "' taken", answer, 0);
            }
        }
        return this;
    }

    /** Trader, side, LEFT, price, state, end. */
    Desk order(int o, int... due) {
        for (int what = 0; what < due.length; what++) {
            called();
            due("order(" + o + ", " + what + ")", floor.order(o, what), due[what]);
        }
        return this;
    }

    Desk left(int o, int due) {
        called();
        return due("order(" + o + ", 2)", floor.order(o, 2), due);
    }

    Desk state(int o, int due) {
        called();
        return due("order(" + o + ", 4)", floor.order(o, 4), due);
    }

    /** CASH, GOODS, HELD CASH, HELD GOODS, waiting orders. */
    Desk trader(int t, long... due) {
        for (int what = 0; what < due.length; what++) {
            called();
            due("trader(" + t + ", " + what + ")", floor.trader(t, what), due[what]);
        }
        return this;
    }

    /** Price, LEFT, orders. */
    Desk level(int side, int k, int... due) {
        for (int what = 0; what < due.length; what++) {
            called();
            due("level(" + side + ", " + k + ", " + what + ")", floor.level(side, k, what), due[what]);
        }
        return this;
    }

    Desk noLevel(int side, int k) {
        return level(side, k, -1, -1, -1);
    }

    /** Buyer, seller, price, quantity. */
    Desk trade(int k, int... due) {
        for (int what = 0; what < due.length; what++) {
            called();
            due("trade(" + k + ", " + what + ")", floor.trade(k, what), due[what]);
        }
        return this;
    }

    Desk noTrade(int k) {
        return trade(k, -1, -1, -1, -1);
    }

    Desk count(int what, int due) {
        called();
        return due("count(" + what + ")", floor.count(what), due);
    }

    Desk due(String call, long got, long due) {
        check(got == due, name + ": " + call + " answered " + got + ", due is " + due);
        return this;
    }

    static void check(boolean holds, String complaint) {
        checks++;
        if (!holds) {
            wrong++;
            System.out.println(complaint);
        }
    }

    static void finish() {
        System.out.println(checks + " checks, " + wrong + " wrong");
        if (wrong != 0 || checks == 0) {
            System.exit(1);
        }
    }

    private void called() {
        calls++;
        if (calls > CALLS_PROMISED) {
            check(false, name + ": a test with more calls than the document promises");
        }
    }
}
