/** Promise 3, line: every number of a LINE at its least, at its greatest, one beyond, and what is no number at all. */
public final class Promise3NumbersTest {
    private static final int WRONG_WORDS = -11, NO_ORDER = -12, NO_FUNDS = -16;

    /** Every place of every LINE where a number stands is marked once. */
    private static final String[] PLACES = {"cash # 5", "cash 0 #", "goods # 5", "goods 0 #", "take # 5", "take 0 #",
        "buy # 1 at 1", "buy 0 # at 1", "buy 0 1 at #", "buy 0 1 at # now", "buy 0 1 at # all", "buy 0 1 at # post",
        "buy 0 1 at 1 until #", "sell # 1 at 1", "sell 0 # at 1", "sell 0 1 at #", "sell 0 1 at 1 until #",
        "buy # 1 any", "buy 0 # any", "sell # 1 any", "sell 0 # any", "stop buy # 1 at 1", "stop buy 0 # at 1",
        "stop buy 0 1 at #", "stop sell # 1 at 1", "stop sell 0 # at 1", "stop sell 0 1 at #", "cancel # 0",
        "cancel 0 #", "less # 0 1", "less 0 # 1", "less 0 0 #", "tick #"};

    /** Too many digits, with zeros before, too; and signs that are no digits, those next to them first. */
    private static final String[] NO_NUMBERS = {"", "10000000", "12345678", "00000000", "00000001", "/", ":", "1/",
        "1:", "/1", ":1", "-0", "-1", "+1", "1.", "1.0", "1e0", "0x1", "a", "1a", "a1", "1-1", "1,0", "\u00b9",
        "1\u00b9", "\u00b1"};

    public static void main(String[] args) {
        nowhereWhatIsNoNumber();
        traders();
        amounts();
        quantities();
        prices();
        ticks();
        untils();
        orderNumbers();
        lessNumbers();
        Desk.finish();
    }

    /** Trader 0 has one order that waits and more than enough of all. */
    private static Desk rich() {
        return new Desk("rich").lines("cash 0 9999999", "goods 0 9999999", "buy 0 5 at 1");
    }

    private static void wrong(String line) {
        rich().line(line, WRONG_WORDS).count(0, 1).count(2, 1).count(4, 0).count(5, 0)
                .trader(0, 9999999, 9999999, 5, 0, 1).order(0, 0, 0, 5, 1, 0, -1);
    }

    private static void nowhereWhatIsNoNumber() {
        for (String place : PLACES) {
            for (String text : NO_NUMBERS) {
                wrong(place.replace("#", text));
            }
        }
    }

    private static void traders() {
        String[] lines = {"cash # 5", "goods # 5", "take # 5", "buy # 5 at 5", "sell # 5 at 5", "buy # 5 at 5 now",
            "buy # 5 at 5 post", "sell # 5 at 5 until 5", "buy # 5 any", "sell # 5 any", "stop buy # 5 at 5",
            "stop sell # 5 at 5"};
        for (String line : lines) {
            for (String t : new String[] {"0", "1", "6", "7", "00", "07", "0000000", "0000007"}) {
                int trader = Integer.parseInt(t);
                Desk desk = new Desk(line).lines("cash " + t + " 100", "goods " + t + " 100").line(line.replace("#", t),
                        line.contains(" at ") || line.contains("any") ? 0 : 5);
                desk.order(0, line.matches("(cash|goods|take).*") ? -1 : trader);
                desk.traderWhat(trader, 0, line.startsWith("cash") ? 105 : line.startsWith("take") ? 95 : 100);
                desk.traderWhat(trader, 1, line.startsWith("goods") ? 105 : 100);
            }
            for (String t : new String[] {"8", "9", "10", "70", "0000008", "9999999"}) {
                wrong(line.replace("#", t));
            }
        }
        new Desk("cancel and less of trader 7").line("stop buy 7 5 at 5", 0).line("less 8 0 1", WRONG_WORDS)
                .line("cancel 8 0", WRONG_WORDS).line("less 7 0 1", 4).line("cancel 7 0", 4);
    }

    private static void amounts() {
        for (String n : new String[] {"0", "1", "9999999", "0000000", "0000001", "00"}) {
            int value = Integer.parseInt(n);
            new Desk("amounts").line("cash 3 " + n, value).line("goods 3 " + n, value).trader(3, value, value, 0, 0, 0)
                    .line("take 3 " + n, value).trader(3, 0, value, 0, 0, 0).count(2, 0);
        }
        Desk often = new Desk("often the greatest");
        for (int i = 0; i < 40; i++) {
            often.line("cash 7 9999999", 9999999).line("goods 7 9999999", 9999999);
        }
        often.trader(7, 399999960L, 399999960L, 0, 0, 0).line("take 7 9999999", 9999999).trader(7, 389999961L);
    }

    private static void quantities() {
        String[] lines = {"buy 0 # at 1", "sell 0 # at 1", "buy 0 # at 1 now", "sell 0 # at 9 now", "buy 0 # at 1 post",
            "sell 0 # at 9 post", "buy 0 # at 1 until 1", "sell 0 # at 9 until 1", "buy 0 # any", "sell 0 # any",
            "stop buy 0 # at 1", "stop sell 0 # at 9"};
        for (String line : lines) {
            for (String n : new String[] {"1", "9999", "01", "0000001", "0009999"}) {
                int quantity = Integer.parseInt(n);
                new Desk(line).lines("cash 0 9999", "goods 0 9999").line(line.replace("#", n), 0).left(0, quantity)
                        .count(0, 1);
            }
            for (String n : new String[] {"0", "00", "0000000", "10000", "0010000", "9999999"}) {
                wrong(line.replace("#", n));
            }
        }
        for (String n : new String[] {"1", "9999"}) {
            new Desk("all " + n).lines("cash 0 9999", "goods 1 9999", "sell 1 9999 at 1")
                    .line("buy 0 " + n + " at 1 all", 1).trade(0, 0, 1, 1, Integer.parseInt(n));
        }
        wrong("buy 0 0 at 1 all");
        wrong("sell 0 0 at 1 all");
        wrong("buy 0 10000 at 1 all");
    }

    private static void prices() {
        String[] lines = {"buy 0 1 at #", "sell 0 1 at #", "buy 0 1 at # now", "sell 0 1 at # now", "buy 0 1 at # post",
            "sell 0 1 at # post", "buy 0 1 at # until 1", "sell 0 1 at # until 1", "stop buy 0 1 at #",
            "stop sell 0 1 at #"};
        for (String line : lines) {
            for (String n : new String[] {"1", "9999", "01", "0000001", "0009999"}) {
                int price = Integer.parseInt(n);
                new Desk(line).lines("cash 0 9999", "goods 0 9999").line(line.replace("#", n), 0).orderWhat(0, 3, price);
            }
            for (String n : new String[] {"0", "00", "0000000", "10000", "0010000", "9999999"}) {
                wrong(line.replace("#", n));
            }
        }
        for (String n : new String[] {"1", "9999"}) {
            new Desk("all at " + n).lines("cash 0 9999", "goods 1 1", "sell 1 1 at " + n)
                    .line("buy 0 1 at " + n + " all", 1).trade(0, 0, 1, Integer.parseInt(n), 1);
        }
        wrong("buy 0 1 at 0 all");
        wrong("buy 0 1 at 10000 all");
    }

    private static void ticks() {
        for (String n : new String[] {"1", "2", "98", "99", "01", "099", "0000001", "0000099"}) {
            new Desk("tick " + n).line("tick " + n, 0).count(4, Integer.parseInt(n)).count(2, 0);
        }
        for (String n : new String[] {"0", "00", "0000000", "100", "0000100", "199", "9999999"}) {
            wrong("tick " + n);
        }
        Desk far = new Desk("many times the greatest");
        for (int i = 0; i < 100; i++) {
            far.line("tick 99", 0);
        }
        far.count(4, 9900).lines("cash 0 1").line("buy 0 1 at 1 until 99", 0).orderWhat(0, 5, 9999).line("tick 98", 0)
                .state(0, 0).line("tick 1", 1).state(0, 2).count(4, 9999);
    }

    private static void untils() {
        for (String side : new String[] {"buy", "sell"}) {
            for (String n : new String[] {"1", "2", "98", "99", "01", "099", "0000099"}) {
                int ticks = Integer.parseInt(n);
                String line = side + " 0 1 at 1 until " + n;
                new Desk(line).lines("cash 0 1", "goods 0 1").line(line, 0).orderWhat(0, 5, ticks);
                Desk later = new Desk("later " + line).lines("cash 0 1", "goods 0 1", "tick 7").line(line, 0)
                        .orderWhat(0, 5, 7 + ticks);
                if (ticks > 1) {
                    later.line("tick " + (ticks - 1), 0);
                }
                later.state(0, 0).traderWhat(0, 4, 1).line("tick 1", 1).state(0, 2).traderWhat(0, 4, 0)
                        .trader(0, 1, 1, 0, 0, 0).orderWhat(0, 5, 7 + ticks);
            }
            for (String n : new String[] {"0", "00", "0000000", "100", "0000100", "9999999"}) {
                wrong(side + " 0 1 at 1 until " + n);
            }
        }
    }

    private static void orderNumbers() {
        for (String verb : new String[] {"cancel 0 #", "less 0 # 0", "less 0 # 9999999"}) {
            for (String o : new String[] {"0", "1", "39", "40", "9999999", "0000000"}) {
                new Desk("no orders").line(verb.replace("#", o), NO_ORDER);
            }
            for (String o : new String[] {"1", "2", "40", "0000001", "9999999"}) {
                new Desk("one order").lines("stop buy 0 5 at 5").line(verb.replace("#", o), NO_ORDER).count(6, 1);
            }
        }
        for (String o : new String[] {"0", "00", "0000000"}) {
            new Desk("zeros").lines("stop buy 0 5 at 5").line("less 0 " + o + " 1", 4).line("cancel 0 " + o, 4).state(0, 2);
        }
        Desk forty = new Desk("forty orders");
        for (int o = 0; o < 40; o++) {
            forty.line("stop buy 3 2 at 5", o);
        }
        forty.line("less 3 40 1", NO_ORDER).line("cancel 3 40", NO_ORDER).line("less 3 39 1", 1).line("cancel 3 39", 1)
                .state(39, 2).state(38, 1).line("cancel 3 0", 2).count(6, 38);
    }

    private static void lessNumbers() {
        for (String order : new String[] {"buy 0 5 at 1", "sell 0 5 at 1", "stop buy 0 5 at 1", "stop sell 0 5 at 1"}) {
            for (int n = 0; n <= 4; n++) {
                new Desk(order).lines("cash 0 9", "goods 0 9", order).line("less 0 0 " + n, 5 - n).left(0, 5 - n)
                        .traderWhat(0, 4, 1);
            }
            for (String n : new String[] {"5", "6", "10000", "0000005", "9999999"}) {
                new Desk(order).lines("cash 0 9", "goods 0 9", order).line("less 0 0 " + n, WRONG_WORDS).left(0, 5)
                        .traderWhat(0, 4, 1).count(2, 1);
            }
            // Down to one, and no further.
            new Desk(order).lines("cash 0 9", "goods 0 9", order).line("less 0 0 4", 1).line("less 0 0 1", WRONG_WORDS)
                    .line("less 0 0 0", 1).left(0, 1).line("cancel 0 0", 1);
        }
        new Desk("greatest").lines("goods 0 9999", "sell 0 9999 at 9999").line("less 0 0 9999", WRONG_WORDS)
                .line("less 0 0 9998", 1).trader(0, 0, 9999, 0, 1, 1).line("sell 0 9999 at 1", NO_FUNDS);
        // LEFT is what is left by trades, not what the order came with.
        new Desk("traded").lines("goods 0 5", "sell 0 5 at 1", "cash 1 9", "buy 1 2 at 1").line("less 0 0 3", WRONG_WORDS)
                .line("less 0 0 2", 1).trader(0, 2, 3, 0, 1, 1);
    }
}
