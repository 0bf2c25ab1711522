import java.util.Random;

/** All promises: runs of calls at random, from fixed seeds, are answered as the model answers them. */
final class ModelTest {
    private static final int RUNS = 600;
    private static final int CALLS = 512;
    private static final int[] WILD = {Integer.MIN_VALUE, -100, -2, -1, 0, 1, 2, 3, 5, 6, 15, 16, 20, 21, 40, 41, 60,
        61, 99, 100, 255, 999, 1000, 9999, 65536, Integer.MAX_VALUE - 1, Integer.MAX_VALUE};
    private static final String SIGNS = "bchw=e:dn,0123456789x ";
    private static final Due due = new Due();

    private final Random random;
    private final HookHours real = new HookHours();
    private final Model model = new Model();
    // How often in a hundred an argument is wild, how often a half hour is done, and the highest offer.
    private final int wild;
    private final int hours;
    private final int coins;
    private String waiting = "";

    private ModelTest(int seed) {
        random = new Random(seed);
        wild = seed % 4 == 0 ? 10 : 1;
        hours = seed % 3 == 0 ? 12 : 3;
        coins = new int[] {3, 20, 60, 300}[seed % 4];
    }

    public static void main(String[] args) {
        for (int seed = 0; seed < RUNS; seed++) {
            due.part("seed " + seed);
            new ModelTest(seed).run();
        }
        due.end();
    }

    private void run() {
        for (int i = 0; i < CALLS; i++) {
            if (!waiting.isEmpty()) {
                typeOne();
            } else if (random.nextInt(100) < 35) {
                tell();
            } else {
                act();
            }
        }
        due.holds("the whole state is told alike", whole().isEmpty());
    }

    private int number(int below) {
        return random.nextInt(100) < wild ? WILD[random.nextInt(WILD.length)] : random.nextInt(below);
    }

    private int hour() {
        int next = Math.max(0, Math.min(15, model.count(1)));
        return random.nextInt(3) > 0 ? number(16) : next + random.nextInt(Math.min(3, 16 - next));
    }

    private int weight(int crane) {
        return 1 + number(crane < 0 || crane > 2 ? 60 : 20 * crane + 20);
    }

    private void act() {
        int crane = number(3);
        int hour = hour();
        int pick = random.nextInt(100 + hours);
        if (pick < 45) {
            int firm = number(6);
            int weight = weight(crane);
            int offer = 1 + number(coins);
            String call = "bid(" + firm + ", " + crane + ", " + hour + ", " + weight + ", " + offer + ")";
            due.is(call, real.bid(firm, crane, hour, weight, offer), model.bid(firm, crane, hour, weight, offer));
        } else if (pick < 52) {
            int firm = number(6);
            String call = "withdraw(" + firm + ", " + crane + ", " + hour + ")";
            due.is(call, real.withdraw(firm, crane, hour), model.withdraw(firm, crane, hour));
        } else if (pick < 58) {
            int wind = number(100);
            due.is("expect(" + hour + ", " + wind + ")", real.expect(hour, wind), model.expect(hour, wind));
        } else if (pick < 66) {
            due.is("award(" + crane + ", " + hour + ")", real.award(crane, hour), model.award(crane, hour));
        } else if (pick < 76) {
            trade(crane, hour);
        } else if (pick < 81) {
            int firm = number(6);
            int more = 1 + number(random.nextBoolean() ? 999 : coins);
            due.is("fund(" + firm + ", " + more + ")", real.fund(firm, more), model.fund(firm, more));
        } else {
            rare(pick);
        }
    }

    private void trade(int crane, int hour) {
        int to = number(6);
        int weight = weight(crane);
        int price = number(2 * coins);
        String call = "trade(" + crane + ", " + hour + ", " + to + ", " + weight + ", " + price + ")";
        due.is(call, real.trade(crane, hour, to, weight, price), model.trade(crane, hour, to, weight, price));
    }

    private void rare(int pick) {
        switch (pick) {
            case 81, 82, 83, 84 -> due.is("undo()", real.undo(), model.undo());
            case 85 -> due.is("keep()", real.keep(), model.keep());
            case 86, 87 -> due.is("restore()", real.restore(), model.restore());
            case 88, 89, 90 -> due.is("nextDay()", real.nextDay(), model.nextDay());
            case 91, 92 -> {
                due.is("clearText()", real.clearText(), model.clearText());
                waiting = plan();
            }
            case 93, 94, 95 -> due.is("perform()", real.perform(), model.perform());
            case 96 -> {
                char sign = (char) random.nextInt(65536);
                due.is("type(" + (int) sign + ")", real.type(sign), model.type(sign));
            }
            default -> {
                int wind = number(80);
                due.is("done(" + wind + ")", real.done(wind), model.done(wind));
            }
        }
    }

    private void typeOne() {
        char sign = waiting.charAt(0);
        due.is("type('" + sign + "')", real.type(sign), model.type(sign));
        waiting = waiting.substring(1);
        if (waiting.isEmpty()) {
            due.is("perform()", real.perform(), model.perform());
            due.is("stopped(0)", real.stopped(0), model.stopped(0));
            due.is("stopped(1)", real.stopped(1), model.stopped(1));
        }
    }

    /** A plan, in one of three cases with a sign put in, left out or put in place of another. */
    private String plan() {
        StringBuilder text = new StringBuilder(entry());
        while (random.nextInt(4) > 0 && text.length() < 70) {
            text.append(',').append(entry());
        }
        if (random.nextInt(3) == 0) {
            int at = random.nextInt(text.length());
            char sign = SIGNS.charAt(random.nextInt(SIGNS.length()));
            switch (random.nextInt(3)) {
                case 0 -> text.insert(at, sign);
                case 1 -> text.deleteCharAt(at);
                default -> text.setCharAt(at, sign);
            }
        }
        return text.toString();
    }

    private String entry() {
        int crane = random.nextInt(3);
        int hour = Math.max(0, Math.min(15, hour()));
        return switch (random.nextInt(8)) {
            case 0 -> "e" + hour + ":" + random.nextInt(70);
            case 1 -> "d" + random.nextInt(80);
            case 2 -> random.nextInt(5) == 0 ? "n" : "d" + random.nextInt(40);
            default -> "b" + random.nextInt(6) + "c" + crane + "h" + hour + "w" + (1 + random.nextInt(20 + 20 * crane))
                + "=" + (1 + random.nextInt(coins));
        };
    }

    private void tell() {
        int crane = number(3);
        int hour = hour();
        int firm = number(6);
        int what;
        switch (random.nextInt(8)) {
            case 0 -> {
                what = number(8);
                due.is("firm(" + firm + ", " + what + ")", real.firm(firm, what), model.firm(firm, what));
            }
            case 1, 2 -> {
                what = number(8);
                String call = "slot(" + crane + ", " + hour + ", " + what + ")";
                due.is(call, real.slot(crane, hour, what), model.slot(crane, hour, what));
            }
            case 3 -> {
                int weight = weight(crane);
                int offer = 1 + number(coins);
                String call = "wouldCost(" + firm + ", " + crane + ", " + hour + ", " + weight + ", " + offer + ")";
                due.is(call, real.wouldCost(firm, crane, hour, weight, offer),
                    model.wouldCost(firm, crane, hour, weight, offer));
            }
            case 4 -> due.is("heaviest(" + crane + ", " + hour + ")", real.heaviest(crane, hour),
                model.heaviest(crane, hour));
            case 5 -> due.is("wind(" + hour + ")", real.wind(hour), model.wind(hour));
            case 6 -> {
                int weight = weight(crane);
                due.is("cheapest(" + crane + ", " + weight + ")", real.cheapest(crane, weight),
                    model.cheapest(crane, weight));
            }
            default -> {
                what = number(17);
                due.is("count(" + what + ")", real.count(what), model.count(what));
                due.is("stopped(" + what + ")", real.stopped(what), model.stopped(what));
            }
        }
    }

    /** The first call of all that tell of the state that is not answered alike; empty if all are. */
    private String whole() {
        for (int what = 0; what <= 15; what++) {
            if (real.count(what) != model.count(what)) return "count(" + what + ")";
            for (int firm = 0; firm < 6; firm++) {
                if (real.firm(firm, what) != model.firm(firm, what)) return "firm(" + firm + ", " + what + ")";
            }
            for (int crane = 0; crane < 3; crane++) {
                for (int hour = 0; hour < 16; hour++) {
                    if (real.slot(crane, hour, what) != model.slot(crane, hour, what)) return "slot(.., " + what + ")";
                    if (real.heaviest(crane, hour) != model.heaviest(crane, hour)) return "heaviest";
                    if (real.wind(hour) != model.wind(hour)) return "wind";
                }
            }
        }
        return "";
    }
}
