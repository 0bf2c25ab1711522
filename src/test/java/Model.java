import java.util.ArrayDeque;
import java.util.ArrayList;
import java.util.Comparator;
import java.util.List;
import java.util.Optional;
import java.util.function.IntSupplier;
import java.util.regex.Matcher;
import java.util.regex.Pattern;
import java.util.stream.IntStream;

/**
 * The document written a second time, from its words and with the Java library: bids and payments are kept as
 * lists of records, and what is told is found by searching these.
 */
final class Model {
    private static final int UNKNOWN = -1;
    private static final int BAD_VALUE = -2;
    private static final int FULL = -3;
    private static final int NOT_POSSIBLE = -4;
    private static final int NONE = -5;
    private static final int TOO_POOR = -6;

    private static final String HOUR = "(?:[0-9]|1[0-5])";
    private static final String WIND = "(?:0|[1-9][0-9]?)";
    private static final String ENTRY = "(?:b[0-5]c[0-2]h" + HOUR + "w(?:[1-9]|[1-5][0-9]|60)=[1-9][0-9]?[0-9]?"
        + "|e" + HOUR + ":" + WIND + "|d" + WIND + "|n)";
    private static final Pattern PLAN = Pattern.compile(ENTRY + "(?:," + ENTRY + ")*");

    private record Bid(int firm, int crane, int hour, int weight, int coins) {
        boolean isFor(int otherCrane, int otherHour) {
            return crane == otherCrane && hour == otherHour;
        }
    }

    private record Award(int crane, int hour, int firm, int weight, int price) {
    }

    private record Ending(int day, int crane, int hour, int firm, int weight, int reason) {
    }

    /** Coins that went from one to another; 6 is the yard, 7 is where coins come from. */
    private record Payment(int from, int to, int coins, boolean refund) {
    }

    private record State(int day, List<Integer> blown, List<Integer> expected, List<Bid> bids, List<Award> awards,
        List<Ending> endings, List<Payment> payments, int trades) {
        State copy() {
            return new State(day, new ArrayList<>(blown), new ArrayList<>(expected), new ArrayList<>(bids),
                new ArrayList<>(awards), new ArrayList<>(endings), new ArrayList<>(payments), trades);
        }

        State with(int newDay, int newTrades) {
            return new State(newDay, blown, expected, bids, awards, endings, payments, newTrades);
        }
    }

    private State s;
    private State kept;
    private final ArrayDeque<State> history = new ArrayDeque<>();
    private String text = "";
    private int stopEntry = NONE;
    private int stopError = NONE;

    Model() {
        s = new State(0, new ArrayList<>(), new ArrayList<>(), new ArrayList<>(), new ArrayList<>(),
            new ArrayList<>(), new ArrayList<>(), 0);
        IntStream.range(0, 16).forEach(i -> s.expected.add(20));
        IntStream.range(0, 6).forEach(i -> s.payments.add(new Payment(7, i, 100, false)));
    }

    private int act(IntSupplier what) {
        State before = s;
        s = s.copy();
        int answer = what.getAsInt();
        if (answer < 0) {
            s = before;
            return answer;
        }
        history.addLast(before);
        if (history.size() > 4) {
            history.removeFirst();
        }
        return answer;
    }

    private static boolean in(int value, int from, int to) {
        return from <= value && value <= to;
    }

    private static int lift(int crane) {
        return crane == 0 ? 20 : crane == 1 ? 40 : 60;
    }

    private static boolean bears(int weight, int wind) {
        return wind <= 70 - weight;
    }

    private int next() {
        return s.blown.size();
    }

    private Optional<Award> awarded(int crane, int hour) {
        return s.awards.stream().filter(a -> a.crane == crane && a.hour == hour).findFirst();
    }

    private int balance(int who) {
        return s.payments.stream().mapToInt(p -> (p.to == who ? p.coins : 0) - (p.from == who ? p.coins : 0)).sum();
    }

    private int offered(int firm) {
        return s.bids.stream().filter(b -> b.firm == firm).mapToInt(b -> b.coins).sum();
    }

    /** The bids that are borne, the one that gets it first. */
    private List<Bid> ranked(int crane, int hour) {
        return s.bids.stream().filter(b -> b.isFor(crane, hour) && bears(b.weight, s.expected.get(hour)))
            .sorted(Comparator.comparingInt((Bid b) -> -b.coins).thenComparingInt(b -> b.firm)).toList();
    }

    int expect(int hour, int wind) {
        return act(() -> expectNow(hour, wind));
    }

    private int expectNow(int hour, int wind) {
        if (!in(hour, 0, 15)) return UNKNOWN;
        if (!in(wind, 0, 99)) return BAD_VALUE;
        if (hour < next()) return NOT_POSSIBLE;
        return s.expected.get(hour) == wind ? NONE : s.expected.set(hour, wind);
    }

    int fund(int firm, int coins) {
        return act(() -> {
            if (!in(firm, 0, 5)) return UNKNOWN;
            if (!in(coins, 1, 999)) return BAD_VALUE;
            if (balance(firm) + coins > 9999) return FULL;
            s.payments.add(new Payment(7, firm, coins, false));
            return balance(firm);
        });
    }

    int bid(int firm, int crane, int hour, int weight, int coins) {
        return act(() -> bidNow(firm, crane, hour, weight, coins));
    }

    private int bidNow(int firm, int crane, int hour, int weight, int coins) {
        if (!in(firm, 0, 5) || !in(crane, 0, 2) || !in(hour, 0, 15)) return UNKNOWN;
        if (!in(weight, 1, lift(crane)) || !in(coins, 1, 999)) return BAD_VALUE;
        boolean has = s.bids.stream().anyMatch(b -> b.isFor(crane, hour) && b.firm == firm);
        if (hour < next() || awarded(crane, hour).isPresent() || has) return NOT_POSSIBLE;
        if (offered(firm) + coins > balance(firm)) return TOO_POOR;
        if (s.bids.size() >= 60) return FULL;
        s.bids.add(new Bid(firm, crane, hour, weight, coins));
        return (int) s.bids.stream().filter(b -> b.isFor(crane, hour)).count();
    }

    int withdraw(int firm, int crane, int hour) {
        return act(() -> {
            Optional<Bid> bid = s.bids.stream().filter(b -> b.isFor(crane, hour) && b.firm == firm).findFirst();
            bid.ifPresent(s.bids::remove);
            return bid.map(Bid::coins).orElse(UNKNOWN);
        });
    }

    int award(int crane, int hour) {
        return act(() -> awardNow(crane, hour));
    }

    private int awardNow(int crane, int hour) {
        if (!in(crane, 0, 2) || !in(hour, 0, 15)) return UNKNOWN;
        if (hour < next() || awarded(crane, hour).isPresent()) return NOT_POSSIBLE;
        List<Bid> ranked = ranked(crane, hour);
        if (ranked.isEmpty()) return NONE;
        Bid best = ranked.get(0);
        int price = ranked.size() == 1 ? 0 : ranked.get(1).coins;
        s.awards.add(new Award(crane, hour, best.firm, best.weight, price));
        s.payments.add(new Payment(best.firm, 6, price, false));
        s.bids.removeIf(b -> b.isFor(crane, hour));
        return best.firm;
    }

    int trade(int crane, int hour, int to, int weight, int coins) {
        return act(() -> {
            Optional<Award> award = awarded(crane, hour);
            if (!in(to, 0, 5) || award.isEmpty()) return UNKNOWN;
            if (!in(weight, 1, lift(crane)) || !in(coins, 0, 999)) return BAD_VALUE;
            Award old = award.get();
            if (hour < next() || old.firm == to) return NOT_POSSIBLE;
            if (balance(to) - offered(to) < coins) return TOO_POOR;
            s.payments.add(new Payment(to, old.firm, coins, false));
            s.awards.remove(old);
            s.awards.add(new Award(crane, hour, to, weight, old.price));
            s = s.with(s.day, s.trades + 1);
            return balance(old.firm);
        });
    }

    int done(int wind) {
        return act(() -> doneNow(wind));
    }

    private int doneNow(int wind) {
        if (!in(wind, 0, 99)) return BAD_VALUE;
        if (next() == 16) return NOT_POSSIBLE;
        int hour = next();
        int lifts = 0;
        for (int i = 0; i < 3; i++) {
            int crane = i;
            boolean nobody = s.bids.stream().noneMatch(b -> b.isFor(crane, hour));
            awardNow(crane, hour);
            Award award = awarded(crane, hour).orElse(null);
            int reason = award != null ? (bears(award.weight, wind) ? 0 : 3) : nobody ? 1 : 2;
            if (reason == 3) s.payments.add(new Payment(6, award.firm, award.price, true));
            boolean none = award == null;
            s.endings.add(new Ending(s.day, crane, hour, none ? NONE : award.firm, none ? 0 : award.weight, reason));
            s.bids.removeIf(b -> b.isFor(crane, hour));
            lifts += reason == 0 ? 1 : 0;
        }
        s.blown.add(wind);
        return lifts;
    }

    int nextDay() {
        return act(this::nextDayNow);
    }

    private int nextDayNow() {
        if (next() < 16) return NOT_POSSIBLE;
        if (s.day == 999) return FULL;
        s.blown.clear();
        s.awards.clear();
        s.bids.clear();
        s.expected.replaceAll(w -> 20);
        s = s.with(s.day + 1, s.trades);
        return s.day;
    }

    int type(char character) {
        if (text.length() == 80) return FULL;
        text += character;
        return text.length();
    }

    int clearText() {
        int length = text.length();
        text = "";
        return length;
    }

    /** A text is at fault where what stands up to there can not be gone on with to a plan. */
    private int fault() {
        for (int i = 1; i <= text.length(); i++) {
            Matcher begun = PLAN.matcher(text.substring(0, i));
            if (!begun.matches() && !begun.hitEnd()) return i - 1;
        }
        return PLAN.matcher(text).matches() ? -1 : text.length();
    }

    int perform() {
        int fault = fault();
        if (fault >= 0) return -100 - fault;
        String[] entries = text.split(",");
        return act(() -> {
            for (int i = 0; i < entries.length; i++) {
                int answer = entryNow(entries[i]);
                if (answer < 0 && answer != NONE) {
                    stopEntry = i;
                    stopError = answer;
                    return NOT_POSSIBLE;
                }
            }
            return entries.length;
        });
    }

    private int entryNow(String entry) {
        int[] n = Pattern.compile("[^0-9]+").splitAsStream(entry).filter(p -> !p.isEmpty())
            .mapToInt(Integer::parseInt).toArray();
        return switch (entry.charAt(0)) {
            case 'b' -> bidNow(n[0], n[1], n[2], n[3], n[4]);
            case 'e' -> expectNow(n[0], n[1]);
            case 'd' -> doneNow(n[0]);
            default -> nextDayNow();
        };
    }

    int stopped(int what) {
        return what == 0 ? stopEntry : what == 1 ? stopError : BAD_VALUE;
    }

    int undo() {
        if (history.isEmpty()) return NONE;
        s = history.removeLast();
        return history.size();
    }

    int keep() {
        kept = s.copy();
        return s.bids.size();
    }

    int restore() {
        return act(() -> {
            if (kept == null) return NONE;
            s = kept.copy();
            return s.bids.size();
        });
    }

    int firm(int firm, int what) {
        if (!in(firm, 0, 5)) return UNKNOWN;
        return switch (what) {
            case 0 -> balance(firm);
            case 1 -> offered(firm);
            case 2 -> (int) s.bids.stream().filter(b -> b.firm == firm).count();
            case 3 -> (int) s.awards.stream().filter(a -> a.firm == firm && a.hour >= next()).count();
            case 4 -> (int) s.endings.stream().filter(e -> e.firm == firm && e.reason == 0).count();
            case 5 -> between(firm, 6, 6);
            case 6 -> -between(firm, 0, 5);
            default -> BAD_VALUE;
        };
    }

    /** What went from a firm to the others in a range, less what came from them. */
    private int between(int firm, int first, int last) {
        return s.payments.stream().mapToInt(p -> (p.from == firm && in(p.to, first, last) ? p.coins : 0)
            - (p.to == firm && in(p.from, first, last) ? p.coins : 0)).sum();
    }

    int slot(int crane, int hour, int what) {
        if (!in(crane, 0, 2) || !in(hour, 0, 15)) return UNKNOWN;
        Optional<Award> award = awarded(crane, hour);
        return switch (what) {
            case 0 -> award.map(Award::firm).orElse(NONE);
            case 1 -> award.map(Award::weight).orElse(0);
            case 2 -> award.map(Award::price).orElse(0);
            case 3 -> (int) s.bids.stream().filter(b -> b.isFor(crane, hour)).count();
            case 4 -> highest(crane, hour);
            case 5 -> hour < next() ? 1 : 0;
            case 6 -> s.endings.stream().filter(e -> e.day == s.day && e.crane == crane && e.hour == hour)
                .mapToInt(e -> e.reason).findFirst().orElse(NONE);
            default -> BAD_VALUE;
        };
    }

    private int highest(int crane, int hour) {
        return s.bids.stream().filter(b -> b.isFor(crane, hour)).mapToInt(b -> b.coins).max().orElse(0);
    }

    /** Makes the bid and the award, looks at the price, and takes both back. */
    int wouldCost(int firm, int crane, int hour, int weight, int coins) {
        State before = s;
        s = s.copy();
        int answer = bidNow(firm, crane, hour, weight, coins);
        if (answer >= 0) {
            answer = awardNow(crane, hour) == firm ? awarded(crane, hour).orElseThrow().price : NONE;
        }
        s = before;
        return answer;
    }

    int heaviest(int crane, int hour) {
        if (!in(crane, 0, 2) || !in(hour, 0, 15)) return UNKNOWN;
        return IntStream.rangeClosed(1, lift(crane)).filter(w -> bears(w, s.expected.get(hour))).max().orElse(0);
    }

    int wind(int hour) {
        if (!in(hour, 0, 15)) return UNKNOWN;
        return hour < next() ? s.blown.get(hour) : s.expected.get(hour);
    }

    int cheapest(int crane, int weight) {
        if (!in(crane, 0, 2)) return UNKNOWN;
        if (!in(weight, 1, lift(crane))) return BAD_VALUE;
        return IntStream.range(next(), 16)
            .filter(h -> awarded(crane, h).isEmpty() && bears(weight, s.expected.get(h))).boxed()
            .min(Comparator.comparingInt((Integer h) -> highest(crane, h)).thenComparingInt(h -> h)).orElse(NONE);
    }

    int count(int what) {
        return switch (what) {
            case 0 -> s.day;
            case 1 -> next();
            case 2 -> s.bids.size();
            case 3 -> (int) s.awards.stream().filter(a -> a.hour >= next()).count();
            case 4, 5, 6, 7 -> (int) s.endings.stream().filter(e -> e.reason == what - 4).count();
            case 8 -> balance(6);
            case 9 -> s.payments.stream().filter(Payment::refund).mapToInt(p -> p.coins).sum();
            case 10 -> IntStream.range(0, 6).map(this::balance).sum();
            case 11 -> -balance(7);
            case 12 -> s.trades;
            case 13 -> s.endings.stream().filter(e -> e.reason == 0).mapToInt(e -> e.weight).sum();
            case 14 -> history.size();
            case 15 -> text.length();
            default -> BAD_VALUE;
        };
    }
}
