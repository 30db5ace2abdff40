/** Promise 3, line: which words are a LINE, and what cash, goods and take do. */
public final class Promise3WordsTest {
    private static final int WRONG_WORDS = -11;
    private static final char[] BLANK_LIKE = {1, 9, 10, 11, 12, 13, 31, 33, 95, 160, 255};

    public static void main(String[] args) {
        gifts();
        takes();
        wordsThatAreNoLine();
        wordsThatAreAlmostALine();
        zerosBefore();
        refusalEmptiesTheTape();
        Desk.finish();
    }

    private static void gifts() {
        new Desk("gifts").line("cash 0 100", 100).line("cash 0 0", 0).line("cash 7 9999999", 9999999)
                .line("cash 7 9999999", 9999999).line("goods 7 3", 3).line("goods 7 9999999", 9999999)
                .trader(0, 100, 0, 0, 0, 0).trader(7, 19999998, 10000002, 0, 0, 0).count(2, 0);
    }

    private static void takes() {
        new Desk("takes").lines("cash 1 50", "buy 1 4 at 10").line("take 1 11", -16).line("take 1 10", 10)
                .line("take 1 1", -16).line("take 1 0", 0).trader(1, 40, 0, 40, 0, 1).count(2, 2);
    }

    private static void wordsThatAreNoLine() {
        String[] wrong = {"", " ", "cash", "cash 0", "cash 0 5 5", " cash 0 5", "cash 0 5 ", "cash  0 5", "cash 0  5",
            "Cash 0 5", "cashh 0 5", "cas 0 5", "cash\t0 5", "cash0 5", "goods 0", "take 0", "take 0 1 1", "give 0 5",
            "buy", "buy 0", "buy 0 5", "buy 0 5 at", "buy 0 5 at 5 5", "buy 0 5 at 5 soon", "buy 0 5 at 5 now now",
            "buy 0 5 at 5 all post", "buy 0 5 at 5 until", "buy 0 5 at 5 until 5 5", "buy 0 5 at 5 now 5",
            "buy 0 5 at 5 any", "buy 0 5 any now", "buy 0 5 any 5", "buy 0 5 any until 5", "buy any 5", "buy 0 any",
            "buy 0 5 to 5", "sell 0 5 at", "sell 0 5 until 5", "sell 0 5 5", "sell 0 5 at any",
            "stop", "stop 0 5 at 5", "stop buy 0 5", "stop buy 0 5 any", "stop sell 0 5 any", "stop buy 0 5 at 5 now",
            "stop buy 0 5 at 5 5", "stop cash 0 5", "stop cash 0 5 at 5", "stop stop buy 0 5 at 5", "buy stop 0 5 at 5",
            "stop buy 0 5 to 5", "cancel", "cancel 0", "cancel 0 0 0", "cancel 0 a", "less 0 0", "less 0 0 1 1",
            "less 0 0 a", "tick", "tick 1 1", "tick a", "now", "a b c d e f g h", "cash 0 5 a b c d e f g h i j k l m"};
        for (String line : wrong) {
            refusedWithoutATrace(line);
        }
    }

    /** Every letter and every blank of every LINE left out, doubled or changed makes it none. */
    private static void wordsThatAreAlmostALine() {
        String[] right = {"cash 0 5", "goods 0 5", "take 0 5", "buy 0 5 at 5", "sell 0 5 at 5", "buy 0 5 at 5 now",
            "sell 0 5 at 5 now", "buy 0 1 at 5 all", "sell 0 1 at 5 all", "buy 0 5 at 5 post", "sell 0 5 at 5 post",
            "buy 0 5 at 5 until 5", "sell 0 5 at 5 until 5", "buy 0 5 any", "sell 0 5 any", "stop buy 0 5 at 5",
            "stop sell 0 5 at 5", "cancel 0 0", "less 0 0 1", "tick 5"};
        for (String line : right) {
            for (int i = 0; i < line.length(); i++) {
                char sign = line.charAt(i);
                if (sign >= '0' && sign <= '9') {
                    continue;
                }
                String before = line.substring(0, i);
                String behind = line.substring(i + 1);
                refusedWithoutATrace(before + behind);
                refusedWithoutATrace(before + sign + sign + behind);
                for (char other : sign == ' ' ? BLANK_LIKE : new char[] {(char) (sign ^ 32), (char) (sign + 128), ' '}) {
                    refusedWithoutATrace(before + other + behind);
                }
            }
            refusedWithoutATrace(" " + line);
            refusedWithoutATrace(line + " ");
            refusedWithoutATrace(line + " x");
        }
    }

    private static void refusedWithoutATrace(String line) {
        Desk desk = new Desk("wrong words").lines("cash 0 1000000", "goods 0 50", "buy 0 3 at 2");
        desk.line(line.length() > 40 ? line.substring(0, 40) : line, WRONG_WORDS).count(2, 1);
        desk.trader(0, 1000000, 50, 6, 0, 1).count(0, 1).count(1, 0).count(4, 0).count(5, 0).count(6, 0);
        desk.order(0, 0, 0, 3, 2, 0, -1);
    }

    private static void zerosBefore() {
        new Desk("zeros before").line("cash 0000003 0000900", 900).line("cash 3 0000000", 0).line("goods 03 0010", 10)
                .line("take 003 0100", 100).line("buy 03 0002 at 0007 until 05", 0).order(0, 3, 0, 2, 7, 0, 5)
                .line("sell 03 003 at 0008", 1).line("less 0003 0000001 01", 2).line("cancel 03 00000", 2)
                .line("stop sell 00003 0007 at 00005", 2).order(2, 3, 1, 7, 5, 1, -1).line("tick 0000099", 0)
                .line("buy 0003 00004 any", 3).count(4, 99).trader(3, 800, 10, 0, 0, 1);
    }

    private static void refusalEmptiesTheTape() {
        new Desk("emptied").line("take 0 1", -16).count(5, 0).line("cash 0 1", 1).count(5, 0).line("nonsense", -11)
                .count(5, 0).line("take 0 1", 1).count(2, 2);
    }
}
