import java.util.List;
import java.util.Random;

/** Promises 2 to 8: many runs of lines, always the same ones, beside the document written a second time. */
public final class RandomRunsTest {
    private static final int RUNS = 20000;
    private static final int CALLS_FOR_LINES = 330;
    private static final String[] WAYS = {"", "", "", "", " now", " all", " post", " until 1", " until 3", " until 7"};

    public static void main(String[] args) {
        int trades = 0;
        for (int run = 0; run < RUNS; run++) {
            trades += oneRun(run);
        }
        Desk.check(trades > RUNS, "too few trades for a test: " + trades);
        Desk.finish();
    }

    private static int oneRun(int run) {
        Random random = new Random(run);
        Desk desk = new Desk("run " + run);
        PlainFloor plain = new PlainFloor();
        int traders = 2 + random.nextInt(3);
        int prices = 2 + random.nextInt(8);
        for (int t = 0; t < traders; t++) {
            both(desk, plain, "cash " + t + " " + random.nextInt(200));
            both(desk, plain, "goods " + t + " " + random.nextInt(40));
        }
        int lines = 5 + random.nextInt(50);
        for (int i = 0; i < lines && desk.calls() < CALLS_FOR_LINES; i++) {
            both(desk, plain, anyLine(random, traders, prices));
        }
        compare(desk, plain, random);
        return plain.trades.size();
    }

    private static void both(Desk desk, PlainFloor plain, String line) {
        desk.line(line, plain.line(line));
        long held = 0;
        for (int t = 0; t < 8; t++) {
            held = Math.min(held, Math.min(plain.cash[t] - plain.heldCash(t), plain.goods[t] - plain.heldGoods(t)));
        }
        Desk.check(held == 0, "overdrawn by '" + line + "'");
    }

    private static String anyLine(Random random, int traders, int prices) {
        String line = goodLine(random, traders, prices);
        if (random.nextInt(25) > 0) {
            return line;
        }
        int at = random.nextInt(line.length());
        String sign = " 0a9".substring(random.nextInt(4)).substring(0, 1);
        return line.substring(0, at) + sign + line.substring(at + random.nextInt(2));
    }

    private static String goodLine(Random random, int traders, int prices) {
        int t = random.nextInt(traders);
        int quantity = 1 + random.nextInt(12);
        int price = 1 + random.nextInt(prices);
        String side = random.nextBoolean() ? "buy " : "sell ";
        switch (random.nextInt(16)) {
            case 0: return "cash " + t + " " + random.nextInt(30);
            case 1: return "goods " + t + " " + random.nextInt(10);
            case 2: return "take " + t + " " + random.nextInt(30);
            case 3: return "cancel " + t + " " + random.nextInt(20);
            case 4: return "less " + t + " " + random.nextInt(20) + " " + random.nextInt(6);
            case 5: return "tick " + (1 + random.nextInt(4));
            case 6:
            case 7: return side + t + " " + quantity + " any";
            case 8:
            case 9:
            case 10: return "stop " + side + t + " " + quantity + " at " + price;
            default: return side + t + " " + quantity + " at " + price + WAYS[random.nextInt(WAYS.length)];
        }
    }

    private static void compare(Desk desk, PlainFloor plain, Random random) {
        desk.count(0, plain.tickets.size()).count(1, plain.trades.size()).count(2, plain.refusals)
                .count(3, plain.last).count(4, plain.now).count(5, 0).count(6, (int) plain.sleeping());
        for (int t = 0; t < 5; t++) {
            desk.trader(t, plain.cash[t], plain.goods[t], plain.heldCash(t), plain.heldGoods(t), plain.waiting(t));
        }
        compareLevels(desk, 0, plain.levels(false));
        compareLevels(desk, 1, plain.levels(true));
        // The calls that are left of the promised ones do not reach for all orders and trades of a long run.
        for (int i = 0; i < 12 && !plain.tickets.isEmpty(); i++) {
            PlainFloor.Ticket x = plain.tickets.get(random.nextInt(plain.tickets.size()));
            int state = List.of("open", "stop", "done").indexOf(x.state);
            desk.order(x.number, x.trader, x.sells ? 1 : 0, x.left, x.price, state, x.end);
        }
        for (int i = 0; i < 5 && !plain.trades.isEmpty(); i++) {
            int k = random.nextInt(plain.trades.size());
            desk.trade(k, plain.trades.get(k));
        }
    }

    private static void compareLevels(Desk desk, int side, List<int[]> levels) {
        for (int k = 0; k < levels.size() && k < 4; k++) {
            desk.level(side, k, levels.get(k));
        }
        desk.noLevel(side, levels.size());
    }
}
