/** A floor where traders' orders, told in words, meet by price and time. */
public final class TradeFloor {
    public static final int REFUSED = -1, FULL = -3;

    private static final int WRONG_WORDS = -11, NO_ORDER = -12, NOT_YOURS = -13, IS_DONE = -14,
            NO_ROOM = -15, NO_FUNDS = -16, NO_MATCH = -17;

    private static final int TAPE_ROOM = 40, TRADERS = 8, ORDER_ROOM = 40, TRADES_KNOWN = 200;
    private static final int MOST_OF_AN_ORDER = 9999, MOST_TICKS = 99;

    private static final int BUY = 0, SELL = 1;
    private static final int OPEN = 0, STOP = 1, DONE = 2;

    private static final int NONE = -1;
    private static final int ANY_PRICE = 0;

    private final Tape tape;
    private final Command command;
    private final Exchange exchange;
    private int refusals;

    public TradeFloor() {
        tape = new Tape();
        command = new Command();
        exchange = new Exchange();
        refusals = 0;
    }

    public int feed(int word) {
        return tape.add(word);
    }

    public int line() {
        command.read(tape);
        tape.clear();
        int answer = exchange.perform(command);
        if (answer < 0) {
            refusals++;
        } else {
            exchange.wakeStops();
        }
        return answer;
    }

    public int order(int o, int what) {
        if (!exchange.orders.has(o)) {
            return REFUSED;
        }
        Order asked = exchange.orders.rows[o];
        switch (what) {
            case 0: return asked.owner;
            case 1: return asked.side;
            case 2: return asked.left;
            case 3: return asked.price;
            case 4: return asked.state;
            case 5: return asked.end;
            default: return REFUSED;
        }
    }

    public long trader(int t, int what) {
        if (t < 0 || t >= TRADERS) {
            return REFUSED;
        }
        Account asked = exchange.accounts[t];
        switch (what) {
            case 0: return asked.cash;
            case 1: return asked.goods;
            case 2: return asked.heldCash;
            case 3: return asked.heldGoods;
            case 4: return exchange.orders.waitingOf(t);
            default: return REFUSED;
        }
    }

    public int level(int side, int k, int what) {
        if (side != BUY && side != SELL) {
            return REFUSED;
        }
        int price = exchange.orders.priceAt(side, k);
        if (price == NONE) {
            return REFUSED;
        }
        switch (what) {
            case 0: return price;
            case 1: return exchange.orders.leftAt(side, price);
            case 2: return exchange.orders.ordersAt(side, price);
            default: return REFUSED;
        }
    }

    public int trade(int k, int what) {
        return exchange.trades.look(k, what);
    }

    public int count(int what) {
        switch (what) {
            case 0: return exchange.orders.size;
            case 1: return exchange.trades.made;
            case 2: return refusals;
            case 3: return exchange.last;
            case 4: return exchange.now;
            case 5: return tape.size;
            case 6: return exchange.orders.sleepingStops();
            default: return REFUSED;
        }
    }

    /** The signs fed so far, and the words that they make. */
    private static final class Tape {
        static final int BLANK = 32, MOST_WORDS = 7, MOST_DIGITS = 7;

        private final int[] signs = new int[TAPE_ROOM];
        private final int[] starts = new int[MOST_WORDS];
        private final int[] ends = new int[MOST_WORDS];
        int size;
        int words;

        /** Nothing of a word that has not room comes to the tape. */
        int add(int word) {
            if (size + signsOf(word) > TAPE_ROOM) {
                return FULL;
            }
            for (int shift = 24; shift >= 0; shift -= 8) {
                int sign = (word >>> shift) & 255;
                if (sign != 0 && size < TAPE_ROOM) {
                    signs[size] = sign;
                    size++;
                }
            }
            return size;
        }

        private static int signsOf(int word) {
            int found = 0;
            for (int shift = 24; shift >= 0; shift -= 8) {
                if (((word >>> shift) & 255) != 0) {
                    found++;
                }
            }
            return found;
        }

        void clear() {
            size = 0;
        }

        /** False if a word is empty (a blank too many) or there are more than any line has. */
        boolean cutIntoWords() {
            words = 0;
            int start = 0;
            for (int i = 0; i <= size; i++) {
                if (i < size && signs[i] != BLANK) {
                    continue;
                }
                if (i == start || words >= MOST_WORDS) {
                    return false;
                }
                starts[words] = start;
                ends[words] = i;
                words++;
                start = i + 1;
            }
            return true;
        }

        boolean says(int k, String text) {
            if (k < 0 || k >= words || ends[k] - starts[k] != text.length()) {
                return false;
            }
            for (int i = 0; i < text.length(); i++) {
                if (signs[starts[k] + i] != text.charAt(i)) {
                    return false;
                }
            }
            return true;
        }

        /** NONE if word k is no number, or not from low to high. */
        int numberFrom(int k, int low, int high) {
            int value = number(k);
            return value >= low && value <= high ? value : NONE;
        }

        int number(int k) {
            if (k < 0 || k >= words || ends[k] - starts[k] > MOST_DIGITS) {
                return NONE;
            }
            int value = 0;
            for (int i = starts[k]; i < ends[k]; i++) {
                if (signs[i] < '0' || signs[i] > '9') {
                    return NONE;
                }
                value = value * 10 + signs[i] - '0';
            }
            return value;
        }
    }

    /** What a line asks for; one object is used again for every line. */
    private static final class Command {
        static final int NOTHING = 0, CASH = 1, GOODS = 2, TAKE = 3, LIMIT = 4, ANY = 5, STOP_ORDER = 6,
                CANCEL = 7, LESS = 8, TICK = 9;
        static final int STAYING = 0, NOW = 1, ALL = 2, POST = 3, UNTIL = 4;

        int verb;
        int owner;
        int side;
        int quantity;
        int price;
        int way;
        int ticks;
        int target;
        int amount;

        void read(Tape tape) {
            verb = NOTHING;
            if (!tape.cutIntoWords()) {
                return;
            }
            if (tape.says(0, "buy") || tape.says(0, "sell")) {
                verb = readOrder(tape);
            } else if (tape.says(0, "stop")) {
                verb = readStop(tape);
            } else if (tape.says(0, "cash")) {
                verb = readAmount(tape, CASH);
            } else if (tape.says(0, "goods")) {
                verb = readAmount(tape, GOODS);
            } else if (tape.says(0, "take")) {
                verb = readAmount(tape, TAKE);
            } else if (tape.says(0, "cancel")) {
                verb = readCancel(tape);
            } else if (tape.says(0, "less")) {
                verb = readLess(tape);
            } else if (tape.says(0, "tick")) {
                verb = readTick(tape);
            }
        }

        private int readAmount(Tape tape, int asked) {
            amount = tape.number(2);
            return tape.words == 3 && readOwner(tape, 1) && amount != NONE ? asked : NOTHING;
        }

        private int readOrder(Tape tape) {
            if (!readBasics(tape, 0)) {
                return NOTHING;
            }
            if (tape.words == 4 && tape.says(3, "any")) {
                price = ANY_PRICE;
                return ANY;
            }
            return readPrice(tape, 3) && readWay(tape, 5) ? LIMIT : NOTHING;
        }

        private int readStop(Tape tape) {
            return tape.words == 6 && readBasics(tape, 1) && readPrice(tape, 4) ? STOP_ORDER : NOTHING;
        }

        private int readCancel(Tape tape) {
            target = tape.number(2);
            return tape.words == 3 && readOwner(tape, 1) && target != NONE ? CANCEL : NOTHING;
        }

        private int readLess(Tape tape) {
            target = tape.number(2);
            amount = tape.number(3);
            return tape.words == 4 && readOwner(tape, 1) && target != NONE && amount != NONE ? LESS : NOTHING;
        }

        private int readTick(Tape tape) {
            return tape.words == 2 && readTicks(tape, 1) ? TICK : NOTHING;
        }

        /** The side at word k, and the trader and the quantity behind it. */
        private boolean readBasics(Tape tape, int k) {
            side = tape.says(k, "buy") ? BUY : SELL;
            quantity = tape.numberFrom(k + 2, 1, MOST_OF_AN_ORDER);
            return (side == BUY || tape.says(k, "sell")) && readOwner(tape, k + 1) && quantity != NONE;
        }

        private boolean readOwner(Tape tape, int k) {
            owner = tape.numberFrom(k, 0, TRADERS - 1);
            return owner != NONE;
        }

        private boolean readPrice(Tape tape, int k) {
            price = tape.numberFrom(k + 1, 1, MOST_OF_AN_ORDER);
            return tape.says(k, "at") && price != NONE;
        }

        private boolean readTicks(Tape tape, int k) {
            ticks = tape.numberFrom(k, 1, MOST_TICKS);
            return ticks != NONE;
        }

        private boolean readWay(Tape tape, int k) {
            if (tape.says(k, "until")) {
                way = UNTIL;
                return tape.words == k + 2 && readTicks(tape, k + 1);
            }
            way = tape.says(k, "now") ? NOW : tape.says(k, "all") ? ALL : tape.says(k, "post") ? POST : STAYING;
            return tape.words == (way == STAYING ? k : k + 1);
        }
    }

    private static final class Order {
        int owner;
        int side;
        int left;
        int price;
        int state;
        int end;
    }

    private static final class Account {
        long cash;
        long goods;
        long heldCash;
        long heldGoods;

        long freeCash() {
            return cash - heldCash;
        }

        long freeGoods() {
            return goods - heldGoods;
        }
    }

    /** The latest trades, in rows that are used again in a ring. */
    private static final class Trades {
        private final int[] buyers = new int[TRADES_KNOWN];
        private final int[] sellers = new int[TRADES_KNOWN];
        private final int[] prices = new int[TRADES_KNOWN];
        private final int[] quantities = new int[TRADES_KNOWN];
        int made;

        void add(int buyer, int seller, int price, int quantity) {
            int row = made % TRADES_KNOWN;
            buyers[row] = buyer;
            sellers[row] = seller;
            prices[row] = price;
            quantities[row] = quantity;
            made++;
        }

        int look(int k, int what) {
            if (k < 0 || k >= made || k < made - TRADES_KNOWN) {
                return REFUSED;
            }
            int row = k % TRADES_KNOWN;
            switch (what) {
                case 0: return buyers[row];
                case 1: return sellers[row];
                case 2: return prices[row];
                case 3: return quantities[row];
                default: return REFUSED;
            }
        }
    }

    /** All orders that came, by number; those that are OPEN are the book. */
    private static final class Orders {
        final Order[] rows = new Order[ORDER_ROOM];
        int size;

        Orders() {
            for (int o = 0; o < ORDER_ROOM; o++) {
                rows[o] = new Order();
            }
        }

        boolean has(int o) {
            return o >= 0 && o < size;
        }

        boolean isFull() {
            return size >= ORDER_ROOM;
        }

        /** The order is DONE at first, so that the book leaves it out while it meets. */
        int enter(Command command) {
            int number = size;
            Order order = rows[number];
            order.owner = command.owner;
            order.side = command.side;
            order.left = command.quantity;
            order.price = command.price;
            order.state = DONE;
            order.end = NONE;
            size++;
            return number;
        }

        Order firstMatch(int side, int limit) {
            Order best = null;
            for (int o = 0; o < size; o++) {
                Order order = rows[o];
                if (isMatch(order, side, limit) && (best == null || isBetter(side, order.price, best.price))) {
                    best = order;
                }
            }
            return best;
        }

        int matchesOfOthers(int side, int limit, int owner) {
            int sum = 0;
            for (int o = 0; o < size; o++) {
                if (rows[o].owner != owner && isMatch(rows[o], side, limit)) {
                    sum += rows[o].left;
                }
            }
            return sum;
        }

        private static boolean isMatch(Order order, int side, int limit) {
            return isInBook(order, side) && (limit == ANY_PRICE || !isBetter(side, limit, order.price));
        }

        private static boolean isInBook(Order order, int side) {
            return order.state == OPEN && order.side == side;
        }

        /** Whether an order of this side comes before another by its price alone. */
        private static boolean isBetter(int side, int price, int other) {
            return side == SELL ? price < other : price > other;
        }

        /** Null if every stop sleeps on. */
        Order firstWakingStop(int last) {
            for (int o = 0; o < size; o++) {
                if (rows[o].state == STOP && wakes(rows[o], last)) {
                    return rows[o];
                }
            }
            return null;
        }

        private static boolean wakes(Order stop, int last) {
            return last != 0 && (stop.side == BUY ? last >= stop.price : last <= stop.price);
        }

        int waitingOf(int owner) {
            int found = 0;
            for (int o = 0; o < size; o++) {
                if (rows[o].owner == owner && rows[o].state != DONE) {
                    found++;
                }
            }
            return found;
        }

        int sleepingStops() {
            int found = 0;
            for (int o = 0; o < size; o++) {
                if (rows[o].state == STOP) {
                    found++;
                }
            }
            return found;
        }

        /** The k-th price of a side's book, NONE if there is none. */
        int priceAt(int side, int k) {
            if (k < 0 || k >= ORDER_ROOM) {
                return NONE;
            }
            int price = nextPrice(side, NONE);
            for (int i = 0; i < k && price != NONE; i++) {
                price = nextPrice(side, price);
            }
            return price;
        }

        /** The best price that is behind another (NONE: the best of all). */
        private int nextPrice(int side, int before) {
            int best = NONE;
            for (int o = 0; o < size; o++) {
                int price = rows[o].price;
                boolean behind = before == NONE || isBetter(side, before, price);
                if (isInBook(rows[o], side) && behind && (best == NONE || isBetter(side, price, best))) {
                    best = price;
                }
            }
            return best;
        }

        int leftAt(int side, int price) {
            int sum = 0;
            for (int o = 0; o < size; o++) {
                if (isInBook(rows[o], side) && rows[o].price == price) {
                    sum += rows[o].left;
                }
            }
            return sum;
        }

        int ordersAt(int side, int price) {
            int found = 0;
            for (int o = 0; o < size; o++) {
                if (isInBook(rows[o], side) && rows[o].price == price) {
                    found++;
                }
            }
            return found;
        }
    }

    /** Does what the lines ask: moves cash and goods, and lets orders meet. */
    private static final class Exchange {
        final Account[] accounts = new Account[TRADERS];
        final Orders orders = new Orders();
        final Trades trades = new Trades();
        int last;
        int now;

        Exchange() {
            for (int t = 0; t < TRADERS; t++) {
                accounts[t] = new Account();
            }
        }

        int perform(Command command) {
            switch (command.verb) {
                case Command.CASH:
                case Command.GOODS:
                case Command.TAKE: return moveAmount(command);
                case Command.LIMIT: return placeLimit(command);
                case Command.ANY: return placeAny(command);
                case Command.STOP_ORDER: return placeStop(command);
                case Command.CANCEL: return cancelAsked(command);
                case Command.LESS: return lessen(command);
                case Command.TICK: return passTime(command.ticks);
                default: return WRONG_WORDS;
            }
        }

        private int moveAmount(Command command) {
            Account account = accounts[command.owner];
            if (command.verb == Command.GOODS) {
                account.goods += command.amount;
            } else if (command.verb == Command.CASH) {
                account.cash += command.amount;
            } else if (account.freeCash() < command.amount) {
                return NO_FUNDS;
            } else {
                account.cash -= command.amount;
            }
            return command.amount;
        }

        private int placeLimit(Command command) {
            if (orders.isFull()) {
                return NO_ROOM;
            }
            if (!hasFunds(command)) {
                return NO_FUNDS;
            }
            if (!findsItsMatches(command)) {
                return NO_MATCH;
            }
            int number = orders.enter(command);
            Order order = orders.rows[number];
            meet(order, order.price, order.left);
            if (order.left > 0 && command.way != Command.NOW) {
                order.state = OPEN;
                order.end = command.way == Command.UNTIL ? now + command.ticks : NONE;
                hold(order, order.left);
            }
            return number;
        }

        private int placeAny(Command command) {
            if (orders.isFull()) {
                return NO_ROOM;
            }
            // A buy needs no funds to come: each of its trades is only as large as it can pay.
            if (command.side == SELL && !hasFunds(command)) {
                return NO_FUNDS;
            }
            int number = orders.enter(command);
            meet(orders.rows[number], ANY_PRICE, command.quantity);
            return number;
        }

        private int placeStop(Command command) {
            if (orders.isFull()) {
                return NO_ROOM;
            }
            int number = orders.enter(command);
            orders.rows[number].state = STOP;
            return number;
        }

        private boolean hasFunds(Command command) {
            Account account = accounts[command.owner];
            if (command.side == SELL) {
                return account.freeGoods() >= command.quantity;
            }
            return account.freeCash() >= (long) command.quantity * command.price;
        }

        private boolean findsItsMatches(Command command) {
            int others = 1 - command.side;
            if (command.way == Command.POST) {
                return orders.firstMatch(others, command.price) == null;
            }
            return command.way != Command.ALL
                    || orders.matchesOfOthers(others, command.price, command.owner) >= command.quantity;
        }

        /** Each step but the last two takes a match out of the book, so the bound is never reached. */
        private void meet(Order taker, int limit, int quantity) {
            int open = quantity;
            for (int step = 0; step < ORDER_ROOM + 2 && open > 0; step++) {
                Order match = orders.firstMatch(1 - taker.side, limit);
                if (match == null) {
                    return;
                }
                if (match.owner == taker.owner) {
                    cancel(match);
                    continue;
                }
                int traded = payable(taker, match.price, Math.min(open, match.left));
                if (traded == 0) {
                    return;
                }
                settle(taker, match, traded);
                open -= traded;
            }
        }

        /** Binds any buys alone: a limit buy came with the funds for all of it. */
        private int payable(Order taker, int price, int quantity) {
            if (taker.side == SELL || price <= 0) {
                return quantity;
            }
            return (int) Math.min(quantity, accounts[taker.owner].freeCash() / price);
        }

        private void settle(Order taker, Order match, int quantity) {
            int buyer = taker.side == BUY ? taker.owner : match.owner;
            int seller = taker.side == BUY ? match.owner : taker.owner;
            long paid = (long) quantity * match.price;
            accounts[buyer].cash -= paid;
            accounts[buyer].goods += quantity;
            accounts[seller].cash += paid;
            accounts[seller].goods -= quantity;
            hold(match, -quantity);
            taker.left -= quantity;
            match.left -= quantity;
            if (match.left == 0) {
                match.state = DONE;
            }
            last = match.price;
            trades.add(buyer, seller, match.price, quantity);
        }

        /** Holds for so much more of an order in the book; below 0: so much less. */
        private void hold(Order order, int quantity) {
            Account account = accounts[order.owner];
            if (order.side == SELL) {
                account.heldGoods += quantity;
            } else {
                account.heldCash += (long) quantity * order.price;
            }
        }

        private void cancel(Order order) {
            if (order.state == OPEN) {
                hold(order, -order.left);
            }
            order.state = DONE;
        }

        private int cancelAsked(Command command) {
            int refusal = refusalOfTarget(command);
            if (refusal != 0) {
                return refusal;
            }
            Order order = orders.rows[command.target];
            cancel(order);
            return order.left;
        }

        private int lessen(Command command) {
            int refusal = refusalOfTarget(command);
            if (refusal != 0) {
                return refusal;
            }
            Order order = orders.rows[command.target];
            if (command.amount >= order.left) {
                return WRONG_WORDS;
            }
            if (order.state == OPEN) {
                hold(order, -command.amount);
            }
            order.left -= command.amount;
            return order.left;
        }

        /** 0 if the order that a cancel or a less names may be changed. */
        private int refusalOfTarget(Command command) {
            if (!orders.has(command.target)) {
                return NO_ORDER;
            }
            Order order = orders.rows[command.target];
            if (order.owner != command.owner) {
                return NOT_YOURS;
            }
            return order.state == DONE ? IS_DONE : 0;
        }

        private int passTime(int ticks) {
            int ended = 0;
            for (int i = 0; i < ticks; i++) {
                now++;
                ended += endOrdersOfNow();
            }
            return ended;
        }

        private int endOrdersOfNow() {
            int ended = 0;
            for (int o = 0; o < orders.size; o++) {
                Order order = orders.rows[o];
                if (order.state == OPEN && order.end == now) {
                    cancel(order);
                    ended++;
                }
            }
            return ended;
        }

        /** A woken stop never sleeps again, so the bound is never reached. */
        void wakeStops() {
            for (int i = 0; i < ORDER_ROOM; i++) {
                Order stop = orders.firstWakingStop(last);
                if (stop == null) {
                    return;
                }
                stop.state = DONE;
                // Waking does not change LEFT: a sell short of goods only trades no more than there are.
                long most = stop.side == SELL ? accounts[stop.owner].freeGoods() : stop.left;
                meet(stop, ANY_PRICE, (int) Math.min(most, stop.left));
            }
        }
    }
}
