import java.util.function.Consumer;
import java.util.function.ToIntFunction;

/**
 * A call that returns an error or NONE changes nothing (but for the latest stop of perform()): not the state, nor the
 * history, the snapshot, the text or the latest stop. Nor does a call that only tells.
 */
final class RefusedTest {
    private static final int UNKNOWN = -1;
    private static final int BAD_VALUE = -2;
    private static final int FULL = -3;
    private static final int NOT_POSSIBLE = -4;
    private static final int NONE = -5;
    private static final int TOO_POOR = -6;
    private static final int HIGH = Integer.MAX_VALUE;
    private static final Due due = new Due();

    /** Calls that lead to a state, and all that is told of it. */
    private static final class Start {
        private final Consumer<HookHours> calls;
        private final String whole;

        Start(Consumer<HookHours> calls) {
            this.calls = calls;
            whole = Whole.of(calls);
        }

        void refuses(String call, int want, ToIntFunction<HookHours> refused) {
            HookHours x = new HookHours();
            calls.accept(x);
            due.is(call, refused.applyAsInt(x), want);
            leaves(call, refused);
        }

        void leaves(String call, ToIntFunction<HookHours> told) {
            String after = Whole.of(y -> {
                calls.accept(y);
                told.applyAsInt(y);
            });
            due.same(call + " leaves all as it was", after, whole);
        }
    }

    public static void main(String[] args) {
        newObject();
        Start midday = new Start(RefusedTest::midday);
        windsAndPurses(midday);
        bids(midday);
        withdrawals(midday);
        awards(midday);
        trades(midday);
        hours(midday);
        tellsThatRefuse(midday);
        tellsThatAnswer(midday);
        fullRooms(new Start(RefusedTest::fullRooms));
        dayEnded(new Start(RefusedTest::evening));
        dayNotBegun(new Start(RefusedTest::secondMorning));
        textFaults();
        plansThatAreStopped();
        historyAfterRefusals();
        due.end();
    }

    private static void newObject() {
        due.part("a new object");
        Start fresh = new Start(x -> { });
        fresh.refuses("undo()", NONE, HookHours::undo);
        fresh.refuses("restore()", NONE, HookHours::restore);
        fresh.refuses("stopped(0)", NONE, x -> x.stopped(0));
        fresh.refuses("stopped(1)", NONE, x -> x.stopped(1));
        fresh.refuses("perform()", -100, HookHours::perform);
        fresh.refuses("nextDay()", NOT_POSSIBLE, HookHours::nextDay);
        fresh.refuses("clearText() of none", 0, HookHours::clearText);
        fresh.refuses("award(0, 0)", NONE, x -> x.award(0, 0));
        fresh.refuses("expect(0, 20)", NONE, x -> x.expect(0, 20));
    }

    /** Half hour 0 is done; crane 2 is awarded in half hour 2; a snapshot, a stop, a text and 4 states are there. */
    private static void midday(HookHours x) {
        Steps.performed(x, "d30,n");
        Steps.write(x, "b3c1h9w8=7,e9:33,d21");
        x.fund(0, 50);
        x.bid(0, 0, 3, 20, 30);
        x.keep();
        x.expect(1, 44);
        x.bid(1, 1, 0, 30, 40);
        x.bid(2, 1, 0, 30, 25);
        x.bid(3, 2, 0, 10, 5);
        x.done(51);
        x.bid(0, 2, 2, 50, 40);
        x.bid(3, 2, 2, 45, 20);
        x.award(2, 2);
        x.bid(5, 2, 4, 60, 100);
        x.bid(4, 0, 5, 10, 12);
        x.fund(1, 5);
        x.trade(2, 2, 3, 33, 31);
    }

    private static void windsAndPurses(Start midday) {
        due.part("promises 2, 3");
        midday.refuses("expect(-1, 5)", UNKNOWN, x -> x.expect(-1, 5));
        midday.refuses("expect(16, 5)", UNKNOWN, x -> x.expect(16, 5));
        midday.refuses("expect(2, -1)", BAD_VALUE, x -> x.expect(2, -1));
        midday.refuses("expect(2, 100)", BAD_VALUE, x -> x.expect(2, 100));
        midday.refuses("expect(0, 5)", NOT_POSSIBLE, x -> x.expect(0, 5));
        midday.refuses("expect(1, 44)", NONE, x -> x.expect(1, 44));
        midday.refuses("expect(2, 20)", NONE, x -> x.expect(2, 20));
        midday.refuses("fund(-1, 5)", UNKNOWN, x -> x.fund(-1, 5));
        midday.refuses("fund(6, 5)", UNKNOWN, x -> x.fund(6, 5));
        midday.refuses("fund(0, 0)", BAD_VALUE, x -> x.fund(0, 0));
        midday.refuses("fund(0, -5)", BAD_VALUE, x -> x.fund(0, -5));
        midday.refuses("fund(0, 1000)", BAD_VALUE, x -> x.fund(0, 1000));
        midday.refuses("fund(0, high)", BAD_VALUE, x -> x.fund(0, HIGH));
    }

    private static void bids(Start midday) {
        due.part("promise 4");
        midday.refuses("bid(-1, 0, 6, 5, 5)", UNKNOWN, x -> x.bid(-1, 0, 6, 5, 5));
        midday.refuses("bid(6, 0, 6, 5, 5)", UNKNOWN, x -> x.bid(6, 0, 6, 5, 5));
        midday.refuses("bid(0, -1, 6, 5, 5)", UNKNOWN, x -> x.bid(0, -1, 6, 5, 5));
        midday.refuses("bid(0, 3, 6, 5, 5)", UNKNOWN, x -> x.bid(0, 3, 6, 5, 5));
        midday.refuses("bid(0, 0, -1, 5, 5)", UNKNOWN, x -> x.bid(0, 0, -1, 5, 5));
        midday.refuses("bid(0, 0, 16, 5, 5)", UNKNOWN, x -> x.bid(0, 0, 16, 5, 5));
        midday.refuses("bid(0, 0, 6, 0, 5)", BAD_VALUE, x -> x.bid(0, 0, 6, 0, 5));
        midday.refuses("bid(0, 0, 6, 21, 5)", BAD_VALUE, x -> x.bid(0, 0, 6, 21, 5));
        midday.refuses("bid(0, 0, 6, 5, 0)", BAD_VALUE, x -> x.bid(0, 0, 6, 5, 0));
        midday.refuses("bid(0, 0, 6, 5, 1000)", BAD_VALUE, x -> x.bid(0, 0, 6, 5, 1000));
        midday.refuses("bid(0, 0, 0, 5, 5), done", NOT_POSSIBLE, x -> x.bid(0, 0, 0, 5, 5));
        midday.refuses("bid(0, 2, 2, 5, 5), awarded", NOT_POSSIBLE, x -> x.bid(0, 2, 2, 5, 5));
        midday.refuses("bid(4, 0, 5, 9, 13), again", NOT_POSSIBLE, x -> x.bid(4, 0, 5, 9, 13));
        midday.refuses("bid(5, 0, 6, 5, 1)", TOO_POOR, x -> x.bid(5, 0, 6, 5, 1));
        midday.refuses("bid(0, 0, 6, 5, 132)", TOO_POOR, x -> x.bid(0, 0, 6, 5, 132));
    }

    private static void withdrawals(Start midday) {
        due.part("promise 5");
        midday.refuses("withdraw(-1, 0, 5)", UNKNOWN, x -> x.withdraw(-1, 0, 5));
        midday.refuses("withdraw(6, 0, 5)", UNKNOWN, x -> x.withdraw(6, 0, 5));
        midday.refuses("withdraw(4, -1, 5)", UNKNOWN, x -> x.withdraw(4, -1, 5));
        midday.refuses("withdraw(4, 3, 5)", UNKNOWN, x -> x.withdraw(4, 3, 5));
        midday.refuses("withdraw(4, 0, -1)", UNKNOWN, x -> x.withdraw(4, 0, -1));
        midday.refuses("withdraw(4, 0, 16)", UNKNOWN, x -> x.withdraw(4, 0, 16));
        midday.refuses("withdraw(3, 0, 5), of another firm", UNKNOWN, x -> x.withdraw(3, 0, 5));
        midday.refuses("withdraw(4, 1, 5), of another crane", UNKNOWN, x -> x.withdraw(4, 1, 5));
        midday.refuses("withdraw(4, 0, 6), of another half hour", UNKNOWN, x -> x.withdraw(4, 0, 6));
        midday.refuses("withdraw(1, 1, 0), done", UNKNOWN, x -> x.withdraw(1, 1, 0));
        midday.refuses("withdraw(3, 2, 2), awarded", UNKNOWN, x -> x.withdraw(3, 2, 2));
    }

    private static void awards(Start midday) {
        due.part("promise 6");
        midday.refuses("award(-1, 5)", UNKNOWN, x -> x.award(-1, 5));
        midday.refuses("award(3, 5)", UNKNOWN, x -> x.award(3, 5));
        midday.refuses("award(0, -1)", UNKNOWN, x -> x.award(0, -1));
        midday.refuses("award(0, 16)", UNKNOWN, x -> x.award(0, 16));
        midday.refuses("award(0, 0), done without an award", NOT_POSSIBLE, x -> x.award(0, 0));
        midday.refuses("award(1, 0), done with one", NOT_POSSIBLE, x -> x.award(1, 0));
        midday.refuses("award(2, 2), awarded", NOT_POSSIBLE, x -> x.award(2, 2));
        midday.refuses("award(1, 5), without bids", NONE, x -> x.award(1, 5));
        midday.refuses("award(2, 4), none is borne", NONE, x -> x.award(2, 4));
    }

    private static void trades(Start midday) {
        due.part("promise 7");
        midday.refuses("trade(-1, 2, 0, 5, 5)", UNKNOWN, x -> x.trade(-1, 2, 0, 5, 5));
        midday.refuses("trade(3, 2, 0, 5, 5)", UNKNOWN, x -> x.trade(3, 2, 0, 5, 5));
        midday.refuses("trade(2, -1, 0, 5, 5)", UNKNOWN, x -> x.trade(2, -1, 0, 5, 5));
        midday.refuses("trade(2, 16, 0, 5, 5)", UNKNOWN, x -> x.trade(2, 16, 0, 5, 5));
        midday.refuses("trade(2, 2, -1, 5, 5)", UNKNOWN, x -> x.trade(2, 2, -1, 5, 5));
        midday.refuses("trade(2, 2, 6, 5, 5)", UNKNOWN, x -> x.trade(2, 2, 6, 5, 5));
        midday.refuses("trade(0, 5, 0, 5, 5), not awarded", UNKNOWN, x -> x.trade(0, 5, 0, 5, 5));
        midday.refuses("trade(2, 2, 0, 0, 5)", BAD_VALUE, x -> x.trade(2, 2, 0, 0, 5));
        midday.refuses("trade(2, 2, 0, 61, 5)", BAD_VALUE, x -> x.trade(2, 2, 0, 61, 5));
        midday.refuses("trade(2, 2, 0, 5, -1)", BAD_VALUE, x -> x.trade(2, 2, 0, 5, -1));
        midday.refuses("trade(2, 2, 0, 5, 1000)", BAD_VALUE, x -> x.trade(2, 2, 0, 5, 1000));
        midday.refuses("trade(2, 2, 3, 5, 5), the buyer has it", NOT_POSSIBLE, x -> x.trade(2, 2, 3, 5, 5));
        midday.refuses("trade(2, 2, 3, 5, 0), the buyer has it", NOT_POSSIBLE, x -> x.trade(2, 2, 3, 5, 0));
        midday.refuses("trade(1, 0, 0, 5, 5), done", NOT_POSSIBLE, x -> x.trade(1, 0, 0, 5, 5));
        midday.refuses("trade(2, 2, 5, 5, 1), all is offered", TOO_POOR, x -> x.trade(2, 2, 5, 5, 1));
        midday.refuses("trade(2, 2, 4, 5, 89)", TOO_POOR, x -> x.trade(2, 2, 4, 5, 89));
    }

    private static void hours(Start midday) {
        due.part("promises 8, 9, 13");
        midday.refuses("done(-1)", BAD_VALUE, x -> x.done(-1));
        midday.refuses("done(100)", BAD_VALUE, x -> x.done(100));
        midday.refuses("nextDay()", NOT_POSSIBLE, HookHours::nextDay);
        midday.refuses("stopped(-1)", BAD_VALUE, x -> x.stopped(-1));
        midday.refuses("stopped(2)", BAD_VALUE, x -> x.stopped(2));
    }

    private static void tellsThatRefuse(Start midday) {
        due.part("promises 17 to 23");
        midday.refuses("firm(6, 0)", UNKNOWN, x -> x.firm(6, 0));
        midday.refuses("firm(0, 7)", BAD_VALUE, x -> x.firm(0, 7));
        midday.refuses("slot(3, 0, 0)", UNKNOWN, x -> x.slot(3, 0, 0));
        midday.refuses("slot(0, 0, 7)", BAD_VALUE, x -> x.slot(0, 0, 7));
        midday.refuses("slot(0, 5, 0)", NONE, x -> x.slot(0, 5, 0));
        midday.refuses("slot(0, 5, 6)", NONE, x -> x.slot(0, 5, 6));
        midday.refuses("wouldCost(6, 0, 6, 5, 5)", UNKNOWN, x -> x.wouldCost(6, 0, 6, 5, 5));
        midday.refuses("wouldCost(0, 0, 6, 21, 5)", BAD_VALUE, x -> x.wouldCost(0, 0, 6, 21, 5));
        midday.refuses("wouldCost(0, 2, 2, 5, 5)", NOT_POSSIBLE, x -> x.wouldCost(0, 2, 2, 5, 5));
        midday.refuses("wouldCost(5, 0, 6, 5, 1)", TOO_POOR, x -> x.wouldCost(5, 0, 6, 5, 1));
        midday.refuses("wouldCost(0, 0, 5, 5, 11)", NONE, x -> x.wouldCost(0, 0, 5, 5, 11));
        midday.refuses("wouldCost(0, 2, 6, 51, 11)", NONE, x -> x.wouldCost(0, 2, 6, 51, 11));
        midday.refuses("heaviest(3, 0)", UNKNOWN, x -> x.heaviest(3, 0));
        midday.refuses("wind(16)", UNKNOWN, x -> x.wind(16));
        midday.refuses("cheapest(3, 1)", UNKNOWN, x -> x.cheapest(3, 1));
        midday.refuses("cheapest(0, 21)", BAD_VALUE, x -> x.cheapest(0, 21));
        midday.refuses("cheapest(2, 51)", NONE, x -> x.cheapest(2, 51));
        midday.refuses("count(16)", BAD_VALUE, x -> x.count(16));
    }

    private static void tellsThatAnswer(Start midday) {
        due.part("promises 17 to 23");
        midday.refuses("wouldCost(0, 0, 5, 5, 13)", 12, x -> x.wouldCost(0, 0, 5, 5, 13));
        midday.refuses("wouldCost(0, 2, 4, 5, 1)", 0, x -> x.wouldCost(0, 2, 4, 5, 1));
        midday.refuses("cheapest(0, 20)", 1, x -> x.cheapest(0, 20));
        midday.leaves("firm", x -> {
            for (int i = 0; i < 42; i++) {
                x.firm(i / 7, i % 7);
            }
            return 0;
        });
        midday.leaves("slot", x -> {
            for (int i = 0; i < 48; i++) {
                x.slot(i / 16, i % 16, i % 7);
            }
            return 0;
        });
        midday.leaves("heaviest, wind, count, stopped", x -> {
            for (int i = 0; i < 16; i++) {
                x.heaviest(i % 3, i);
                x.wind(i);
                x.count(i);
                x.stopped(i % 2);
            }
            return 0;
        });
    }

    /** A purse of 9999, 60 bids and a text of 80 characters. */
    private static void fullRooms(HookHours x) {
        x.keep();
        Steps.fillBids(x);
        Steps.fundTo(x, 2, 9999);
        Steps.write(x, "e1:11,e1:12,e1:13,e1:14,e1:15,e1:16,e1:17,e1:18,e1:19,e1:21,e1:22,e1:23,e1:24,d5");
    }

    private static void fullRooms(Start full) {
        due.part("full");
        full.refuses("bid(0, 0, 0, 5, 5)", FULL, x -> x.bid(0, 0, 0, 5, 5));
        full.refuses("wouldCost(0, 0, 0, 5, 5)", FULL, x -> x.wouldCost(0, 0, 0, 5, 5));
        full.refuses("fund(2, 1)", FULL, x -> x.fund(2, 1));
        full.refuses("fund(2, 999)", FULL, x -> x.fund(2, 999));
        full.refuses("type('d')", FULL, x -> x.type('d'));
        full.refuses("type(',')", FULL, x -> x.type(','));
        full.refuses("count(15)", 80, x -> x.count(15));
    }

    private static void evening(HookHours x) {
        Steps.performed(x, "d0,n");
        x.bid(1, 0, 15, 5, 30);
        x.bid(2, 0, 15, 5, 20);
        x.bid(3, 2, 15, 60, 20);
        x.keep();
        Steps.endHours(x, 14, 7);
        x.done(8);
        x.done(9);
        Steps.write(x, "n,d3");
    }

    private static void dayEnded(Start evening) {
        due.part("the day has ended");
        evening.refuses("done(0)", NOT_POSSIBLE, x -> x.done(0));
        evening.refuses("done(100)", BAD_VALUE, x -> x.done(100));
        evening.refuses("expect(15, 3)", NOT_POSSIBLE, x -> x.expect(15, 3));
        evening.refuses("expect(15, 20)", NOT_POSSIBLE, x -> x.expect(15, 20));
        evening.refuses("bid(0, 1, 15, 5, 5)", NOT_POSSIBLE, x -> x.bid(0, 1, 15, 5, 5));
        evening.refuses("withdraw(3, 2, 15)", UNKNOWN, x -> x.withdraw(3, 2, 15));
        evening.refuses("award(2, 15)", NOT_POSSIBLE, x -> x.award(2, 15));
        evening.refuses("trade(0, 15, 0, 5, 5)", NOT_POSSIBLE, x -> x.trade(0, 15, 0, 5, 5));
        evening.refuses("cheapest(0, 1)", NONE, x -> x.cheapest(0, 1));
        evening.refuses("wouldCost(0, 1, 15, 5, 5)", NOT_POSSIBLE, x -> x.wouldCost(0, 1, 15, 5, 5));
    }

    private static void secondMorning(HookHours x) {
        evening(x);
        x.nextDay();
    }

    private static void dayNotBegun(Start morning) {
        due.part("the next day has just begun");
        morning.refuses("nextDay()", NOT_POSSIBLE, HookHours::nextDay);
        morning.refuses("trade(0, 15, 0, 5, 5)", UNKNOWN, x -> x.trade(0, 15, 0, 5, 5));
        morning.refuses("withdraw(3, 2, 15)", UNKNOWN, x -> x.withdraw(3, 2, 15));
        morning.refuses("award(0, 15)", NONE, x -> x.award(0, 15));
        morning.refuses("expect(15, 20)", NONE, x -> x.expect(15, 20));
    }

    /** A fault is an error, ahead of any entry: not even the latest stop is changed. */
    private static void textFaults() {
        due.part("promise 12: a fault of the text");
        String[] texts = {"", "x", "d5,", "d5,d6,d100", "b0c0h9w9=9,e3:4,d5,n,", "d5;d5", "b0c0h9w9=0", "d5,n,d5x"};
        int[] faults = {0, 0, 3, 9, 21, 2, 9, 7};
        for (int i = 0; i < texts.length; i++) {
            String text = texts[i];
            Start start = new Start(x -> {
                midday(x);
                Steps.write(x, text);
            });
            start.refuses("\"" + text + "\"", -100 - faults[i], HookHours::perform);
        }
    }

    /** All of the entries are done, or none: only the latest stop is another one. */
    private static void plansThatAreStopped() {
        due.part("promise 12: a plan that is stopped");
        String[] plans = {"n", "e9:33,b3c1h9w8=7,d21,d22,b3c1h1w8=7", "b0c0h9w9=9,e3:4,d5,n", "d5,b5c0h9w9=1",
            "b0c0h9w9=9,b0c0h9w9=9", "e5:0,b1c0h9w21=9", "d1,d1,d1,d1,d1,d1,d1,d1,d1,d1,d1,d1,d1,d1,d1,n,n",
            "d1,d1,d1,d1,d1,d1,d1,d1,d1,d1,d1,d1,d1,d1,d1,n,e0:5,e0:5,b0c0h0w1=1,d1,n", "e9:20,e0:5"};
        int[][] stops = {{0, NOT_POSSIBLE}, {4, NOT_POSSIBLE}, {3, NOT_POSSIBLE}, {1, TOO_POOR}, {1, NOT_POSSIBLE},
            {1, BAD_VALUE}, {16, NOT_POSSIBLE}, {20, NOT_POSSIBLE}, {1, NOT_POSSIBLE}};
        for (int i = 0; i < plans.length; i++) {
            String plan = plans[i];
            Consumer<HookHours> before = x -> {
                midday(x);
                Steps.write(x, plan);
            };
            Consumer<HookHours> after = x -> {
                before.accept(x);
                x.perform();
            };
            HookHours x = new HookHours();
            before.accept(x);
            due.is(plan, x.perform(), NOT_POSSIBLE);
            due.is("stopped(0) of " + plan, x.stopped(0), stops[i][0]);
            due.is("stopped(1) of " + plan, x.stopped(1), stops[i][1]);
            due.same(plan + " leaves all but the stop", Whole.withoutStop(after), Whole.withoutStop(before));
            new Start(after).refuses(plan + " again", NOT_POSSIBLE, HookHours::perform);
        }
    }

    /** With a full history and with an empty one: a refused call neither records a state nor drops one. */
    private static void historyAfterRefusals() {
        due.part("a refused call and the history");
        for (int acts = 0; acts <= 6; acts++) {
            HookHours x = new HookHours();
            for (int i = 0; i < acts; i++) {
                x.fund(0, 1);
            }
            refusals(x);
            due.is("count(14)", x.count(14), Math.min(acts, 4));
            for (int left = Math.min(acts, 4) - 1; left >= 0; left--) {
                due.is("undo()", x.undo(), left);
                refusals(x);
                due.is("count(14)", x.count(14), left);
            }
            due.is("undo()", x.undo(), NONE);
            due.is("firm(0, 0)", x.firm(0, 0), 100 + Math.max(0, acts - 4));
        }
    }

    private static void refusals(HookHours x) {
        due.is("expect(0, 20)", x.expect(0, 20), NONE);
        due.is("fund(0, 0)", x.fund(0, 0), BAD_VALUE);
        due.is("bid(0, 0, 0, 1, 999)", x.bid(0, 0, 0, 1, 999), TOO_POOR);
        due.is("withdraw(0, 0, 0)", x.withdraw(0, 0, 0), UNKNOWN);
        due.is("award(0, 0)", x.award(0, 0), NONE);
        due.is("trade(0, 0, 0, 1, 1)", x.trade(0, 0, 0, 1, 1), UNKNOWN);
        due.is("done(100)", x.done(100), BAD_VALUE);
        due.is("nextDay()", x.nextDay(), NOT_POSSIBLE);
        due.is("perform()", x.perform(), -100);
        due.is("n", Steps.performed(x, "d3,d4,n"), NOT_POSSIBLE);
        due.is("clearText()", x.clearText(), 7);
        due.is("restore()", x.restore(), NONE);
    }
}
