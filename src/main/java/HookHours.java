/**
 * Hook time of tower cranes: firms bid for half hours of a day, the highest bid that a crane bears is
 * awarded at what the next one offers, awards are traded, and the wind that blows may stop a lift.
 */
public final class HookHours {
    public static final int UNKNOWN = -1;
    public static final int BAD_VALUE = -2;
    public static final int FULL = -3;
    public static final int NOT_POSSIBLE = -4;
    public static final int NONE = -5;
    public static final int TOO_POOR = -6;

    private static final int CRANES = 3;
    private static final int FIRMS = 6;
    private static final int HOURS = 16;
    private static final int SLOTS = CRANES * HOURS;
    private static final int[] LIFTS = {20, 40, 60};
    private static final int MOST_LIFT = 60;
    private static final int MOST_WIND = 99;
    private static final int WIND_AND_WEIGHT = 70;
    private static final int FIRST_WIND = 20;
    private static final int MOST_COINS = 999;
    private static final int FIRST_PURSE = 100;
    private static final int MOST_PURSE = 9999;
    private static final int MOST_BIDS = 60;
    private static final int LAST_DAY = 999;
    private static final int FIRST_FAULT = -100;

    private static final int NOBODY_BID = 1;
    private static final int NO_BID_BORNE = 2;
    private static final int WIND_STOPPED = 3;

    private final State now = new State();
    // What an act began with: it is known only afterwards whether this is to be recorded.
    private final State before = new State();
    private final History history = new History();
    private final State snapshot = new State();
    private boolean kept = false;
    private final Plan plan = new Plan();
    private int stopEntry = NONE;
    private int stopError = NONE;

    public HookHours() {
    }

    // ---- winds, purses, bids

    public int expect(int hour, int wind) {
        before.copy(now);
        return recorded(now.setWind(hour, wind));
    }

    public int fund(int firm, int coins) {
        before.copy(now);
        return recorded(now.addCoins(firm, coins));
    }

    public int bid(int firm, int crane, int hour, int weight, int coins) {
        before.copy(now);
        return recorded(now.placeBid(firm, crane, hour, weight, coins));
    }

    public int withdraw(int firm, int crane, int hour) {
        before.copy(now);
        return recorded(now.removeBid(firm, crane, hour));
    }

    // ---- awards

    public int award(int crane, int hour) {
        before.copy(now);
        return recorded(now.awardEarly(crane, hour));
    }

    public int trade(int crane, int hour, int to, int weight, int coins) {
        before.copy(now);
        return recorded(now.sell(crane, hour, to, weight, coins));
    }

    public int done(int wind) {
        before.copy(now);
        return recorded(now.endHour(wind));
    }

    public int nextDay() {
        before.copy(now);
        return recorded(now.beginDay());
    }

    // ---- texts

    public int type(char character) {
        return plan.append(character);
    }

    public int clearText() {
        return plan.empty();
    }

    public int perform() {
        int entries = plan.check();
        if (entries < 0) {
            return entries;
        }
        before.copy(now);
        plan.rewind();
        for (int i = 0; i < entries; i++) {
            plan.readNext();
            int answer = performed(plan);
            if (answer < 0 && answer != NONE) {
                now.copy(before);
                stopEntry = i;
                stopError = answer;
                return NOT_POSSIBLE;
            }
        }
        return recorded(entries);
    }

    public int stopped(int what) {
        switch (what) {
            case 0:
                return stopEntry;
            case 1:
                return stopError;
            default:
                return BAD_VALUE;
        }
    }

    // ---- history

    public int undo() {
        return history.takeLatest(now) ? history.size() : NONE;
    }

    public int keep() {
        snapshot.copy(now);
        kept = true;
        return now.bids.countAll();
    }

    public int restore() {
        if (!kept) {
            return NONE;
        }
        before.copy(now);
        now.copy(snapshot);
        return recorded(now.bids.countAll());
    }

    // ---- what is told

    public int firm(int firm, int what) {
        if (!isFirm(firm)) {
            return UNKNOWN;
        }
        switch (what) {
            case 0:
                return Rows.at(now.firms.purses, firm);
            case 1:
                return now.bids.offeredBy(firm);
            case 2:
                return now.bids.countOf(firm);
            case 3:
                return now.openAwards(firm);
            case 4:
                return Rows.at(now.firms.lifts, firm);
            case 5:
                return Rows.at(now.firms.paid, firm);
            case 6:
                return Rows.at(now.firms.traded, firm);
            default:
                return BAD_VALUE;
        }
    }

    public int slot(int crane, int hour, int what) {
        if (!isSlot(crane, hour)) {
            return UNKNOWN;
        }
        int slot = slotOf(crane, hour);
        switch (what) {
            case 0:
                return now.slots.ownerOf(slot);
            case 1:
                return Rows.at(now.slots.weights, slot);
            case 2:
                return Rows.at(now.slots.prices, slot);
            case 3:
                return now.bids.countFor(slot);
            case 4:
                return now.bids.highest(slot, MOST_LIFT, NONE);
            case 5:
                return now.isOver(hour) ? 1 : 0;
            case 6:
                return now.isOver(hour) ? Rows.at(now.slots.reasons, slot) : NONE;
            default:
                return BAD_VALUE;
        }
    }

    public int wouldCost(int firm, int crane, int hour, int weight, int coins) {
        int error = now.bidError(firm, crane, hour, weight, coins);
        return error < 0 ? error : now.priceOf(firm, crane, hour, weight, coins);
    }

    public int heaviest(int crane, int hour) {
        return isSlot(crane, hour) ? now.heaviestLift(crane, hour) : UNKNOWN;
    }

    public int wind(int hour) {
        if (!isHour(hour)) {
            return UNKNOWN;
        }
        return Rows.at(now.isOver(hour) ? now.blown : now.expected, hour);
    }

    public int cheapest(int crane, int weight) {
        if (!isCrane(crane)) {
            return UNKNOWN;
        }
        return isLift(crane, weight) ? now.cheapestHour(crane, weight) : BAD_VALUE;
    }

    public int count(int what) {
        switch (what) {
            case 10:
                return Rows.sum(now.firms.purses);
            case 14:
                return history.size();
            case 15:
                return plan.length();
            default:
                return now.total(what);
        }
    }

    // ---- what several of these share

    /** Ends an act: one that answers neither an error nor NONE (all below 0) goes into the history. */
    private int recorded(int answer) {
        if (answer >= 0) {
            history.store(before);
        }
        return answer;
    }

    private int performed(Plan entry) {
        switch (entry.kind) {
            case 'b':
                return now.placeBid(entry.firm, entry.crane, entry.hour, entry.weight, entry.coins);
            case 'e':
                return now.setWind(entry.hour, entry.wind);
            case 'd':
                return now.endHour(entry.wind);
            default:
                return now.beginDay();
        }
    }

    private static boolean isFirm(int firm) {
        return firm >= 0 && firm < FIRMS;
    }

    private static boolean isCrane(int crane) {
        return crane >= 0 && crane < CRANES;
    }

    private static boolean isHour(int hour) {
        return hour >= 0 && hour < HOURS;
    }

    private static boolean isSlot(int crane, int hour) {
        return isCrane(crane) && isHour(hour);
    }

    private static boolean isLift(int crane, int weight) {
        return weight >= 1 && weight <= Rows.at(LIFTS, crane);
    }

    private static boolean isWind(int wind) {
        return wind >= 0 && wind <= MOST_WIND;
    }

    /** One number for a crane and a half hour that both are there. */
    private static int slotOf(int crane, int hour) {
        return crane * HOURS + hour;
    }

    /** The heaviest lift that a crane bears at a wind, 0 if none. */
    private static int heaviestAt(int crane, int wind) {
        return Math.max(0, Math.min(Rows.at(LIFTS, crane), WIND_AND_WEIGHT - wind));
    }

    /** Rows of numbers, where an index that is not there reads as 0 and is not written. */
    private static final class Rows {
        private Rows() {
        }

        static int at(int[] row, int index) {
            return row != null && index >= 0 && index < row.length ? row[index] : 0;
        }

        static void put(int[] row, int index, int value) {
            if (row != null && index >= 0 && index < row.length) {
                row[index] = value;
            }
        }

        static void add(int[] row, int index, int more) {
            if (row != null && index >= 0 && index < row.length) {
                row[index] += more;
            }
        }

        static int sum(int[] row) {
            int sum = 0;
            if (row != null) {
                for (int i = 0; i < row.length; i++) {
                    sum += row[i];
                }
            }
            return sum;
        }

        static void fill(int[] row, int value) {
            if (row != null) {
                for (int i = 0; i < row.length; i++) {
                    row[i] = value;
                }
            }
        }

        static void copy(int[] from, int[] to) {
            if (from != null && to != null) {
                System.arraycopy(from, 0, to, 0, Math.min(from.length, to.length));
            }
        }
    }

    /** The bids that wait: for each firm and slot at most one. */
    private static final class Bids {
        private final int[] weights = new int[FIRMS * SLOTS];
        // 0 where there is no bid, as a bid offers at least 1.
        private final int[] offers = new int[FIRMS * SLOTS];

        void copy(Bids from) {
            Rows.copy(from.weights, weights);
            Rows.copy(from.offers, offers);
        }

        private static int cellOf(int firm, int slot) {
            return firm * SLOTS + slot;
        }

        int offer(int firm, int slot) {
            return Rows.at(offers, cellOf(firm, slot));
        }

        int weight(int firm, int slot) {
            return Rows.at(weights, cellOf(firm, slot));
        }

        void set(int firm, int slot, int weight, int coins) {
            Rows.put(weights, cellOf(firm, slot), weight);
            Rows.put(offers, cellOf(firm, slot), coins);
        }

        void remove(int firm, int slot) {
            set(firm, slot, 0, 0);
        }

        void removeAll(int slot) {
            for (int firm = 0; firm < FIRMS; firm++) {
                set(firm, slot, 0, 0);
            }
        }

        int countFor(int slot) {
            int count = 0;
            for (int firm = 0; firm < FIRMS; firm++) {
                count += Rows.at(offers, cellOf(firm, slot)) > 0 ? 1 : 0;
            }
            return count;
        }

        int countOf(int firm) {
            int count = 0;
            for (int slot = 0; slot < SLOTS; slot++) {
                count += Rows.at(offers, cellOf(firm, slot)) > 0 ? 1 : 0;
            }
            return count;
        }

        int countAll() {
            int count = 0;
            for (int firm = 0; firm < FIRMS; firm++) {
                count += countOf(firm);
            }
            return count;
        }

        int offeredBy(int firm) {
            int coins = 0;
            for (int slot = 0; slot < SLOTS; slot++) {
                coins += Rows.at(offers, cellOf(firm, slot));
            }
            return coins;
        }

        /** The highest offer of lifts up to a weight, but for that of one firm; 0 if there is none. */
        int highest(int slot, int heaviest, int butFor) {
            int highest = 0;
            for (int firm = 0; firm < FIRMS; firm++) {
                int offer = Rows.at(offers, cellOf(firm, slot));
                boolean counts = firm != butFor && Rows.at(weights, cellOf(firm, slot)) <= heaviest;
                highest = counts && offer > highest ? offer : highest;
            }
            return highest;
        }

        /** The lowest firm with the highest offer of lifts up to a weight; NONE if there is none. */
        int winner(int slot, int heaviest) {
            int winner = NONE;
            int highest = 0;
            for (int firm = 0; firm < FIRMS; firm++) {
                int offer = Rows.at(offers, cellOf(firm, slot));
                if (offer > highest && Rows.at(weights, cellOf(firm, slot)) <= heaviest) {
                    winner = firm;
                    highest = offer;
                }
            }
            return winner;
        }
    }

    /** What became of the half hours of the cranes on this day. */
    private static final class Slots {
        private final int[] owners = new int[SLOTS];
        private final int[] weights = new int[SLOTS];
        private final int[] prices = new int[SLOTS];
        private final int[] reasons = new int[SLOTS];

        Slots() {
            Rows.fill(owners, NONE);
        }

        void copy(Slots from) {
            Rows.copy(from.owners, owners);
            Rows.copy(from.weights, weights);
            Rows.copy(from.prices, prices);
            Rows.copy(from.reasons, reasons);
        }

        void clear() {
            Rows.fill(owners, NONE);
            Rows.fill(weights, 0);
            Rows.fill(prices, 0);
            Rows.fill(reasons, 0);
        }

        int ownerOf(int slot) {
            return Rows.at(owners, slot);
        }

        boolean isAwarded(int slot) {
            return Rows.at(owners, slot) != NONE;
        }

        void give(int slot, int firm, int weight) {
            Rows.put(owners, slot, firm);
            Rows.put(weights, slot, weight);
        }
    }

    /** What each firm has and had. */
    private static final class Firms {
        private final int[] purses = new int[FIRMS];
        private final int[] lifts = new int[FIRMS];
        private final int[] paid = new int[FIRMS];
        private final int[] traded = new int[FIRMS];

        Firms() {
            Rows.fill(purses, FIRST_PURSE);
        }

        void copy(Firms from) {
            Rows.copy(from.purses, purses);
            Rows.copy(from.lifts, lifts);
            Rows.copy(from.paid, paid);
            Rows.copy(from.traded, traded);
        }

        void payYard(int firm, int coins) {
            Rows.add(purses, firm, -coins);
            Rows.add(paid, firm, coins);
        }

        void getByTrade(int firm, int coins) {
            Rows.add(purses, firm, coins);
            Rows.add(traded, firm, coins);
        }
    }

    /** What all days together came to so far. */
    private static final class Totals {
        private final int[] without = new int[WIND_STOPPED + 1];
        private int yard = 0;
        private int refunds = 0;
        private int funded = FIRMS * FIRST_PURSE;
        private int trades = 0;
        private int lifts = 0;
        private int weights = 0;

        void copy(Totals from) {
            Rows.copy(from.without, without);
            yard = from.yard;
            refunds = from.refunds;
            funded = from.funded;
            trades = from.trades;
            lifts = from.lifts;
            weights = from.weights;
        }
    }

    /** All that undo() and restore() bring back, and the acts that change it. */
    private static final class State {
        private int day = 0;
        private int next = 0;
        private final int[] expected = new int[HOURS];
        private final int[] blown = new int[HOURS];
        private final Bids bids = new Bids();
        private final Slots slots = new Slots();
        private final Firms firms = new Firms();
        private final Totals totals = new Totals();

        State() {
            Rows.fill(expected, FIRST_WIND);
        }

        void copy(State from) {
            day = from.day;
            next = from.next;
            Rows.copy(from.expected, expected);
            Rows.copy(from.blown, blown);
            bids.copy(from.bids);
            slots.copy(from.slots);
            firms.copy(from.firms);
            totals.copy(from.totals);
        }

        boolean isOver(int hour) {
            return hour < next;
        }

        boolean isOpen(int crane, int hour) {
            return !isOver(hour) && !slots.isAwarded(slotOf(crane, hour));
        }

        int heaviestLift(int crane, int hour) {
            return heaviestAt(crane, Rows.at(expected, hour));
        }

        int freeCoins(int firm) {
            return Rows.at(firms.purses, firm) - bids.offeredBy(firm);
        }

        int setWind(int hour, int wind) {
            if (!isHour(hour)) {
                return UNKNOWN;
            }
            if (!isWind(wind)) {
                return BAD_VALUE;
            }
            if (isOver(hour)) {
                return NOT_POSSIBLE;
            }
            int previous = Rows.at(expected, hour);
            if (previous == wind) {
                return NONE;
            }
            Rows.put(expected, hour, wind);
            return previous;
        }

        int addCoins(int firm, int coins) {
            if (!isFirm(firm)) {
                return UNKNOWN;
            }
            if (coins < 1 || coins > MOST_COINS) {
                return BAD_VALUE;
            }
            if (Rows.at(firms.purses, firm) + coins > MOST_PURSE) {
                return FULL;
            }
            Rows.add(firms.purses, firm, coins);
            totals.funded += coins;
            return Rows.at(firms.purses, firm);
        }

        /** What is wrong with a bid, 0 if nothing is. */
        int bidError(int firm, int crane, int hour, int weight, int coins) {
            if (!isFirm(firm) || !isSlot(crane, hour)) {
                return UNKNOWN;
            }
            if (!isLift(crane, weight) || coins < 1 || coins > MOST_COINS) {
                return BAD_VALUE;
            }
            if (!isOpen(crane, hour) || bids.offer(firm, slotOf(crane, hour)) > 0) {
                return NOT_POSSIBLE;
            }
            if (freeCoins(firm) < coins) {
                return TOO_POOR;
            }
            return bids.countAll() < MOST_BIDS ? 0 : FULL;
        }

        int placeBid(int firm, int crane, int hour, int weight, int coins) {
            int error = bidError(firm, crane, hour, weight, coins);
            if (error < 0) {
                return error;
            }
            bids.set(firm, slotOf(crane, hour), weight, coins);
            return bids.countFor(slotOf(crane, hour));
        }

        /** What a bid in which nothing is wrong would cost, NONE if it would not get the award. */
        int priceOf(int firm, int crane, int hour, int weight, int coins) {
            int heaviest = heaviestLift(crane, hour);
            if (weight > heaviest) {
                return NONE;
            }
            int slot = slotOf(crane, hour);
            int price = bids.highest(slot, heaviest, NONE);
            boolean winsTie = firm < bids.winner(slot, heaviest);
            return coins > price || (coins == price && winsTie) ? price : NONE;
        }

        int removeBid(int firm, int crane, int hour) {
            if (!isFirm(firm) || !isSlot(crane, hour)) {
                return UNKNOWN;
            }
            int coins = bids.offer(firm, slotOf(crane, hour));
            if (coins == 0) {
                return UNKNOWN;
            }
            bids.remove(firm, slotOf(crane, hour));
            return coins;
        }

        int awardEarly(int crane, int hour) {
            if (!isSlot(crane, hour)) {
                return UNKNOWN;
            }
            return isOpen(crane, hour) ? awardOpen(crane, hour) : NOT_POSSIBLE;
        }

        /** Awards what is neither over nor awarded; answers the firm, or NONE. */
        int awardOpen(int crane, int hour) {
            int slot = slotOf(crane, hour);
            int heaviest = heaviestLift(crane, hour);
            int firm = bids.winner(slot, heaviest);
            if (firm == NONE) {
                return NONE;
            }
            int price = bids.highest(slot, heaviest, firm);
            slots.give(slot, firm, bids.weight(firm, slot));
            Rows.put(slots.prices, slot, price);
            firms.payYard(firm, price);
            totals.yard += price;
            bids.removeAll(slot);
            return firm;
        }

        int sell(int crane, int hour, int to, int weight, int coins) {
            if (!isSlot(crane, hour) || !isFirm(to) || !slots.isAwarded(slotOf(crane, hour))) {
                return UNKNOWN;
            }
            if (!isLift(crane, weight) || coins < 0 || coins > MOST_COINS) {
                return BAD_VALUE;
            }
            int seller = slots.ownerOf(slotOf(crane, hour));
            if (isOver(hour) || seller == to) {
                return NOT_POSSIBLE;
            }
            if (freeCoins(to) < coins) {
                return TOO_POOR;
            }
            firms.getByTrade(seller, coins);
            firms.getByTrade(to, -coins);
            slots.give(slotOf(crane, hour), to, weight);
            totals.trades++;
            return Rows.at(firms.purses, seller);
        }

        int endHour(int wind) {
            if (!isWind(wind)) {
                return BAD_VALUE;
            }
            if (next >= HOURS) {
                return NOT_POSSIBLE;
            }
            for (int crane = 0; crane < CRANES; crane++) {
                if (isOpen(crane, next)) {
                    awardOpen(crane, next);
                }
            }
            int made = 0;
            for (int crane = 0; crane < CRANES; crane++) {
                made += endSlot(crane, wind) ? 1 : 0;
            }
            Rows.put(blown, next, wind);
            next++;
            return made;
        }

        /** Makes the lift of a crane in the next half hour, or tells why not; answers whether it is made. */
        boolean endSlot(int crane, int wind) {
            int slot = slotOf(crane, next);
            int reason = reasonAgainst(crane, slot, wind);
            if (reason == 0) {
                Rows.add(firms.lifts, slots.ownerOf(slot), 1);
                totals.lifts++;
                totals.weights += Rows.at(slots.weights, slot);
            } else {
                Rows.add(totals.without, reason, 1);
            }
            if (reason == WIND_STOPPED) {
                refund(slots.ownerOf(slot), Rows.at(slots.prices, slot));
            }
            Rows.put(slots.reasons, slot, reason);
            bids.removeAll(slot);
            return reason == 0;
        }

        /** Why a crane has no lift in a slot that was awarded if it could be; 0 if it has one. */
        int reasonAgainst(int crane, int slot, int wind) {
            if (!slots.isAwarded(slot)) {
                return bids.countFor(slot) > 0 ? NO_BID_BORNE : NOBODY_BID;
            }
            return Rows.at(slots.weights, slot) > heaviestAt(crane, wind) ? WIND_STOPPED : 0;
        }

        void refund(int firm, int coins) {
            firms.payYard(firm, -coins);
            totals.yard -= coins;
            totals.refunds += coins;
        }

        int beginDay() {
            if (next < HOURS) {
                return NOT_POSSIBLE;
            }
            if (day >= LAST_DAY) {
                return FULL;
            }
            day++;
            next = 0;
            slots.clear();
            Rows.fill(expected, FIRST_WIND);
            Rows.fill(blown, 0);
            return day;
        }

        /** The awards of a firm that are not over, of all firms if it is NONE. */
        int openAwards(int firm) {
            int count = 0;
            for (int crane = 0; crane < CRANES; crane++) {
                for (int hour = next; hour < HOURS; hour++) {
                    int owner = slots.ownerOf(slotOf(crane, hour));
                    count += owner != NONE && (firm == NONE || owner == firm) ? 1 : 0;
                }
            }
            return count;
        }

        int cheapestHour(int crane, int weight) {
            int cheapest = NONE;
            int lowest = 0;
            for (int hour = next; hour < HOURS; hour++) {
                if (isOpen(crane, hour) && weight <= heaviestLift(crane, hour)) {
                    int offer = bids.highest(slotOf(crane, hour), MOST_LIFT, NONE);
                    if (cheapest == NONE || offer < lowest) {
                        cheapest = hour;
                        lowest = offer;
                    }
                }
            }
            return cheapest;
        }

        int total(int what) {
            switch (what) {
                case 0:
                    return day;
                case 1:
                    return next;
                case 2:
                    return bids.countAll();
                case 3:
                    return openAwards(NONE);
                case 4:
                    return totals.lifts;
                case 5:
                    return Rows.at(totals.without, NOBODY_BID);
                case 6:
                    return Rows.at(totals.without, NO_BID_BORNE);
                case 7:
                    return Rows.at(totals.without, WIND_STOPPED);
                case 8:
                    return totals.yard;
                case 9:
                    return totals.refunds;
                case 11:
                    return totals.funded;
                case 12:
                    return totals.trades;
                case 13:
                    return totals.weights;
                default:
                    return BAD_VALUE;
            }
        }
    }

    /** The latest states, the oldest one first. */
    private static final class History {
        private static final int ROOM = 4;
        private final State[] states = new State[ROOM];
        private int size = 0;

        History() {
            for (int i = 0; i < states.length; i++) {
                states[i] = new State();
            }
        }

        int size() {
            return size;
        }

        void store(State state) {
            if (size >= states.length) {
                dropOldest();
            }
            State latest = stateAt(size);
            if (latest != null) {
                latest.copy(state);
                size++;
            }
        }

        /** Writes the latest state over one; answers whether there was any. */
        boolean takeLatest(State into) {
            State latest = stateAt(size - 1);
            if (latest == null) {
                return false;
            }
            into.copy(latest);
            size--;
            return true;
        }

        private State stateAt(int index) {
            return index >= 0 && index < states.length ? states[index] : null;
        }

        // The oldest one goes behind the others, to be written over.
        private void dropOldest() {
            for (int i = 1; i < states.length; i++) {
                State oldest = states[i - 1];
                states[i - 1] = states[i];
                states[i] = oldest;
            }
            size--;
        }
    }

    /** The text, and the entry of it that was read last. */
    private static final class Plan {
        private static final int ROOM = 80;
        private static final int MOST_DIGITS = 3;
        private static final int END = -1;

        private final char[] text = new char[ROOM];
        private int length = 0;
        private int position = 0;
        private boolean faulty = false;

        private int kind = END;
        private int firm = 0;
        private int crane = 0;
        private int hour = 0;
        private int weight = 0;
        private int coins = 0;
        private int wind = 0;

        int length() {
            return length;
        }

        int append(char character) {
            if (length < 0 || length >= text.length) {
                return FULL;
            }
            text[length] = character;
            length++;
            return length;
        }

        int empty() {
            int previous = length;
            length = 0;
            return previous;
        }

        /** How many entries there are, or FIRST_FAULT minus the fault. */
        int check() {
            rewind();
            int entries = 0;
            for (int i = 0; i <= ROOM && !faulty && (i == 0 || position < length); i++) {
                readNext();
                entries++;
            }
            return faulty ? FIRST_FAULT - position : entries;
        }

        void rewind() {
            position = 0;
            faulty = false;
        }

        /** Reads the next entry; a fault leaves the position at its place. */
        void readNext() {
            if (position > 0) {
                take(',');
            }
            kind = sign();
            switch (kind) {
                case 'b':
                    readBid();
                    break;
                case 'e':
                    take('e');
                    hour = number(0, HOURS - 1);
                    take(':');
                    wind = number(0, MOST_WIND);
                    break;
                case 'd':
                    take('d');
                    wind = number(0, MOST_WIND);
                    break;
                default:
                    take('n');
                    break;
            }
        }

        private void readBid() {
            take('b');
            firm = number(0, FIRMS - 1);
            take('c');
            crane = number(0, CRANES - 1);
            take('h');
            hour = number(0, HOURS - 1);
            take('w');
            weight = number(1, MOST_LIFT);
            take('=');
            coins = number(1, MOST_COINS);
        }

        private int sign() {
            boolean typed = position >= 0 && position < length && position < text.length;
            return typed ? text[position] : END;
        }

        private void take(char wanted) {
            if (sign() != wanted) {
                faulty = true;
            } else if (!faulty) {
                position++;
            }
        }

        /** Reads a number from 0 or 1 up to the most. */
        private int number(int least, int most) {
            int value = 0;
            for (int digits = 0; !faulty && digits < MOST_DIGITS; digits++) {
                int digit = sign() - '0';
                boolean allowed = digit >= 0 && digit <= 9 && value * 10 + digit <= most;
                boolean first = digits == 0;
                if (first ? !allowed || digit < least : !allowed || value == 0) {
                    faulty = first;
                    break;
                }
                value = value * 10 + digit;
                position++;
            }
            return value;
        }
    }
}
