import java.util.ArrayList;
import java.util.Comparator;
import java.util.List;
import java.util.regex.Matcher;
import java.util.regex.Pattern;

/**
 * The document's terms written a second time, as directly as the Java library allows and without regard to
 * cost: what is HELD is summed up anew from the orders wherever it is asked for.
 */
final class PlainFloor {
    private static final Pattern ORDER = Pattern.compile("(buy|sell) (\\d{1,7}) (\\d{1,7}) (?:any|at (\\d{1,7})"
            + "(?: (now|all|post|until (\\d{1,7})))?)");
    private static final Pattern STOP = Pattern.compile("stop (buy|sell) (\\d{1,7}) (\\d{1,7}) at (\\d{1,7})");
    private static final Pattern AMOUNT = Pattern.compile("(cash|goods|take) (\\d{1,7}) (\\d{1,7})");
    private static final Pattern CANCEL = Pattern.compile("cancel (\\d{1,7}) (\\d{1,7})");
    private static final Pattern LESS = Pattern.compile("less (\\d{1,7}) (\\d{1,7}) (\\d{1,7})");
    private static final Pattern TICK = Pattern.compile("tick (\\d{1,7})");

    static final class Ticket {
        int number;
        int trader;
        boolean sells;
        int left;
        int price;
        String state;
        int end = -1;
        /** A limit's cash or goods are held from its coming on, not only in the book. */
        boolean holds;
    }

    final long[] cash = new long[8];
    final long[] goods = new long[8];
    final List<Ticket> tickets = new ArrayList<>();
    final List<int[]> trades = new ArrayList<>();
    int refusals;
    int last;
    int now;

    int line(String text) {
        int answer = take(text);
        if (answer < 0) {
            refusals++;
            return answer;
        }
        for (Ticket stop = waking(); stop != null; stop = waking()) {
            stop.state = "done";
            long most = stop.sells ? Math.min(stop.left, freeGoods(stop.trader)) : stop.left;
            meet(stop, (int) most, true);
        }
        return answer;
    }

    private int take(String text) {
        Matcher m = AMOUNT.matcher(text);
        if (m.matches()) {
            return amount(m.group(1), number(m, 2), number(m, 3));
        }
        m = ORDER.matcher(text);
        if (m.matches()) {
            return orders(m);
        }
        m = STOP.matcher(text);
        if (m.matches()) {
            return stop(m);
        }
        m = CANCEL.matcher(text);
        if (m.matches()) {
            int refusal = refusal(number(m, 1), number(m, 2));
            if (refusal < 0) {
                return refusal;
            }
            end(tickets.get(number(m, 2)));
            return tickets.get(number(m, 2)).left;
        }
        m = LESS.matcher(text);
        if (m.matches()) {
            return less(number(m, 1), number(m, 2), number(m, 3));
        }
        m = TICK.matcher(text);
        return m.matches() ? tick(number(m, 1)) : -11;
    }

    private int amount(String word, int t, int n) {
        if (t > 7) {
            return -11;
        }
        if (word.equals("take") && freeCash(t) < n) {
            return -16;
        }
        cash[t] += word.equals("cash") ? n : word.equals("take") ? -n : 0;
        goods[t] += word.equals("goods") ? n : 0;
        return n;
    }

    private int orders(Matcher m) {
        boolean any = m.group(4) == null;
        String way = m.group(5) == null ? "" : m.group(5);
        boolean ends = way.startsWith("until");
        if (!inOrder(m, any ? 1 : number(m, 4)) || (ends && (number(m, 6) < 1 || number(m, 6) > 99))) {
            return -11;
        }
        if (tickets.size() == 40) {
            return -15;
        }
        Ticket ticket = ticket(m, any ? 0 : number(m, 4));
        boolean funded = ticket.sells ? freeGoods(ticket.trader) >= ticket.left
                : freeCash(ticket.trader) >= (long) ticket.left * ticket.price;
        if (!funded) {
            return -16;
        }
        List<Ticket> matches = matches(ticket, any);
        if (way.equals("post") && !matches.isEmpty()) {
            return -17;
        }
        int sum = matches.stream().filter(x -> x.trader != ticket.trader).mapToInt(x -> x.left).sum();
        if (way.equals("all") && sum < ticket.left) {
            return -17;
        }
        tickets.add(ticket);
        ticket.holds = !any;
        meet(ticket, ticket.left, any);
        if (any || ticket.left == 0 || way.equals("now")) {
            end(ticket);
        } else {
            ticket.state = "open";
            ticket.end = ends ? now + number(m, 6) : -1;
        }
        return ticket.number;
    }

    private int stop(Matcher m) {
        if (!inOrder(m, number(m, 4))) {
            return -11;
        }
        if (tickets.size() == 40) {
            return -15;
        }
        Ticket ticket = ticket(m, number(m, 4));
        ticket.state = "stop";
        tickets.add(ticket);
        return ticket.number;
    }

    private int refusal(int t, int o) {
        if (t > 7) {
            return -11;
        }
        if (o >= tickets.size()) {
            return -12;
        }
        Ticket ticket = tickets.get(o);
        return ticket.trader != t ? -13 : ticket.state.equals("done") ? -14 : 0;
    }

    private int less(int t, int o, int n) {
        int refusal = refusal(t, o);
        if (refusal < 0) {
            return refusal;
        }
        if (n >= tickets.get(o).left) {
            return -11;
        }
        return tickets.get(o).left -= n;
    }

    private int tick(int n) {
        if (n < 1 || n > 99) {
            return -11;
        }
        int ended = 0;
        for (int i = 0; i < n; i++) {
            now++;
            for (Ticket ticket : tickets) {
                if (ticket.state.equals("open") && ticket.end == now) {
                    end(ticket);
                    ended++;
                }
            }
        }
        return ended;
    }

    private void meet(Ticket ticket, int quantity, boolean any) {
        int rest = quantity;
        for (Ticket match : matches(ticket, any)) {
            if (rest == 0) {
                return;
            }
            if (match.trader == ticket.trader) {
                end(match);
                continue;
            }
            long traded = Math.min(rest, match.left);
            if (any && !ticket.sells) {
                traded = Math.min(traded, freeCash(ticket.trader) / match.price);
            }
            if (traded == 0) {
                return;
            }
            trade(ticket.sells ? match : ticket, ticket.sells ? ticket : match, match.price, (int) traded);
            rest -= (int) traded;
            if (match.left == 0) {
                end(match);
            } else {
                return;
            }
        }
    }

    private void trade(Ticket buy, Ticket sell, int price, int quantity) {
        cash[buy.trader] -= (long) price * quantity;
        cash[sell.trader] += (long) price * quantity;
        goods[buy.trader] += quantity;
        goods[sell.trader] -= quantity;
        buy.left -= quantity;
        sell.left -= quantity;
        last = price;
        trades.add(new int[] {buy.trader, sell.trader, price, quantity});
    }

    private List<Ticket> matches(Ticket ticket, boolean any) {
        List<Ticket> found = new ArrayList<>();
        for (Ticket x : tickets) {
            boolean good = any || (ticket.sells ? x.price >= ticket.price : x.price <= ticket.price);
            if (x.state.equals("open") && x.sells != ticket.sells && good) {
                found.add(x);
            }
        }
        Comparator<Ticket> byPrice = Comparator.comparingInt(x -> x.sells ? x.price : -x.price);
        found.sort(byPrice.thenComparingInt(x -> x.number));
        return found;
    }

    private Ticket waking() {
        for (Ticket x : tickets) {
            if (x.state.equals("stop") && last != 0 && (x.sells ? last <= x.price : last >= x.price)) {
                return x;
            }
        }
        return null;
    }

    private static void end(Ticket ticket) {
        ticket.state = "done";
        ticket.holds = false;
    }

    private static boolean inOrder(Matcher m, int price) {
        return number(m, 2) <= 7 && number(m, 3) >= 1 && number(m, 3) <= 9999 && price >= 1 && price <= 9999;
    }

    private Ticket ticket(Matcher m, int price) {
        Ticket ticket = new Ticket();
        ticket.number = tickets.size();
        ticket.sells = m.group(1).equals("sell");
        ticket.trader = number(m, 2);
        ticket.left = number(m, 3);
        ticket.price = price;
        ticket.state = "meeting";
        return ticket;
    }

    private static int number(Matcher m, int group) {
        return Integer.parseInt(m.group(group));
    }

    long heldCash(int t) {
        return tickets.stream().filter(x -> x.holds && !x.sells && x.trader == t)
                .mapToLong(x -> (long) x.left * x.price).sum();
    }

    long heldGoods(int t) {
        return tickets.stream().filter(x -> x.holds && x.sells && x.trader == t).mapToLong(x -> x.left).sum();
    }

    private long freeCash(int t) {
        return cash[t] - heldCash(t);
    }

    private long freeGoods(int t) {
        return goods[t] - heldGoods(t);
    }

    long waiting(int t) {
        return tickets.stream().filter(x -> x.trader == t && !x.state.equals("done")).count();
    }

    long sleeping() {
        return tickets.stream().filter(x -> x.state.equals("stop")).count();
    }

    /** Price, LEFT and orders of every level of a side, the best first. */
    List<int[]> levels(boolean sells) {
        List<int[]> levels = new ArrayList<>();
        Ticket asker = new Ticket();
        asker.sells = !sells;
        for (Ticket x : matches(asker, true)) {
            if (levels.isEmpty() || levels.get(levels.size() - 1)[0] != x.price) {
                levels.add(new int[] {x.price, 0, 0});
            }
            levels.get(levels.size() - 1)[1] += x.left;
            levels.get(levels.size() - 1)[2]++;
        }
        return levels;
    }
}
