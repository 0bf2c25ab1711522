/**
 * Where several errors can apply, the order of the "Returns" line is the order of the checks, and NONE comes only if no
 * error applies: for each method, each two answers that can apply to one call.
 */
final class OrderTest {
    private static final int UNKNOWN = -1;
    private static final int BAD_VALUE = -2;
    private static final int FULL = -3;
    private static final int NOT_POSSIBLE = -4;
    private static final int NONE = -5;
    private static final int TOO_POOR = -6;
    private static final Due due = new Due();

    public static void main(String[] args) {
        expect();
        fund();
        bidUnknownFirst();
        bidBadValueSecond();
        bidNotPossibleThird();
        bidTooPoorAheadOfFull();
        award();
        tradeUnknownFirst();
        tradeBadValueSecond();
        tradeNotPossibleThird();
        done();
        nextDay();
        perform();
        stopsTellTheFirstError();
        tells();
        cheapest();
        due.end();
    }

    private static void expect() {
        due.part("promise 2");
        HookHours x = new HookHours();
        x.done(30);
        due.is("expect(16, 100): UNKNOWN, BAD_VALUE", x.expect(16, 100), UNKNOWN);
        due.is("expect(-1, -1): UNKNOWN, BAD_VALUE", x.expect(-1, -1), UNKNOWN);
        due.is("expect(0, 100): BAD_VALUE, NOT_POSSIBLE", x.expect(0, 100), BAD_VALUE);
        due.is("expect(0, -1): BAD_VALUE, NOT_POSSIBLE", x.expect(0, -1), BAD_VALUE);
        due.is("expect(0, 20): NOT_POSSIBLE, NONE", x.expect(0, 20), NOT_POSSIBLE);
        due.is("expect(0, 30), which blew: NOT_POSSIBLE, NONE", x.expect(0, 30), NOT_POSSIBLE);
        due.is("expect(1, 20): NONE", x.expect(1, 20), NONE);
    }

    private static void fund() {
        due.part("promise 3");
        HookHours x = new HookHours();
        Steps.fundTo(x, 2, 9999);
        due.is("fund(6, 0): UNKNOWN, BAD_VALUE", x.fund(6, 0), UNKNOWN);
        due.is("fund(-1, 1000): UNKNOWN, BAD_VALUE", x.fund(-1, 1000), UNKNOWN);
        due.is("fund(2, 1000): BAD_VALUE, FULL", x.fund(2, 1000), BAD_VALUE);
        due.is("fund(2, high): BAD_VALUE, FULL", x.fund(2, Integer.MAX_VALUE), BAD_VALUE);
        due.is("fund(2, 0): BAD_VALUE", x.fund(2, 0), BAD_VALUE);
        due.is("fund(2, 1): FULL", x.fund(2, 1), FULL);
        HookHours y = new HookHours();
        Steps.fundTo(y, 2, 9999);
        sellFor(y, 2, 60);
        due.is("a purse above", y.firm(2, 0), 10059);
        due.is("fund(2, 0) above: BAD_VALUE, FULL", y.fund(2, 0), BAD_VALUE);
        due.is("fund(2, -100) above: BAD_VALUE, FULL", y.fund(2, -100), BAD_VALUE);
    }

    private static void sellFor(HookHours x, int firm, int coins) {
        x.bid(firm, 0, 15, 1, 1);
        x.award(0, 15);
        x.trade(0, 15, firm == 0 ? 1 : 0, 1, coins);
    }

    /** 60 bids of 1 coin (of all firms, half hours 5 to 14), one half hour done, and one award of firm 3. */
    private static HookHours crowded() {
        HookHours x = new HookHours();
        x.bid(3, 2, 2, 1, 1);
        x.award(2, 2);
        x.done(0);
        Steps.fillBids(x);
        due.is("count(2)", x.count(2), 60);
        return x;
    }

    private static void bidUnknownFirst() {
        due.part("promises 4, 19: UNKNOWN ahead of the others");
        HookHours x = crowded();
        int[][] calls = {{6, 0, 3, 21, 1}, {6, 0, 3, 1, 1000}, {-1, 0, 3, 0, 0}, {0, 3, 3, 61, 1}, {0, -1, 3, 0, 1},
            {0, 0, 16, 21, 1}, {0, 0, -1, 1, 0}, {6, 0, 0, 1, 1}, {6, 2, 2, 1, 1}, {6, 0, 5, 1, 1}, {0, 3, 0, 1, 1},
            {6, 0, 3, 1, 999}, {0, 3, 3, 1, 999}, {0, 0, 16, 1, 999}, {6, 0, 3, 1, 1}, {0, 3, 3, 1, 1},
            {0, 0, 16, 1, 1}, {0, 0, -1, 1, 1}};
        both(x, calls, UNKNOWN);
    }

    private static void bidBadValueSecond() {
        due.part("promises 4, 19: BAD_VALUE ahead of NOT_POSSIBLE, TOO_POOR, FULL");
        HookHours x = crowded();
        int[][] calls = {{0, 0, 0, 21, 1}, {0, 0, 0, 1, 0}, {0, 2, 2, 61, 1}, {0, 2, 2, 1, 1000}, {0, 0, 5, 0, 1},
            {0, 0, 5, 1, -1}, {0, 0, 3, 21, 999}, {0, 1, 3, 41, 999}, {0, 2, 3, 61, 999}, {0, 2, 3, 1, 1000},
            {0, 0, 3, 0, 1}, {0, 0, 3, 1, 0}};
        both(x, calls, BAD_VALUE);
    }

    private static void bidNotPossibleThird() {
        due.part("promises 4, 19: NOT_POSSIBLE ahead of TOO_POOR, FULL");
        HookHours x = crowded();
        int[][] calls = {{0, 0, 0, 1, 999}, {0, 2, 2, 1, 999}, {3, 2, 2, 1, 999}, {0, 0, 5, 1, 999}, {0, 0, 0, 1, 1},
            {0, 2, 2, 1, 1}, {3, 2, 2, 1, 1}, {0, 0, 5, 1, 1}, {5, 2, 13, 60, 1}};
        both(x, calls, NOT_POSSIBLE);
    }

    private static void bidTooPoorAheadOfFull() {
        due.part("promises 4, 19: TOO_POOR ahead of FULL, FULL ahead of NONE");
        HookHours x = crowded();
        both(x, new int[][] {{0, 0, 3, 1, 91}, {5, 2, 15, 60, 999}}, TOO_POOR);
        both(x, new int[][] {{0, 0, 3, 1, 90}, {5, 2, 15, 60, 1}, {0, 2, 15, 51, 1}}, FULL);
        HookHours y = new HookHours();
        y.bid(0, 2, 0, 50, 100);
        due.is("wouldCost(0, 2, 0, 61, 999): BAD_VALUE ahead of NONE", y.wouldCost(0, 2, 0, 61, 999), BAD_VALUE);
        due.is("wouldCost(0, 2, 0, 60, 1): NOT_POSSIBLE ahead of NONE", y.wouldCost(0, 2, 0, 60, 1), NOT_POSSIBLE);
        due.is("wouldCost(1, 2, 0, 60, 101): TOO_POOR ahead of NONE", y.wouldCost(1, 2, 0, 60, 101), TOO_POOR);
        due.is("wouldCost(1, 2, 0, 60, 100): NONE", y.wouldCost(1, 2, 0, 60, 100), NONE);
        due.is("wouldCost(6, 2, 0, 60, 100): UNKNOWN ahead of NONE", y.wouldCost(6, 2, 0, 60, 100), UNKNOWN);
    }

    private static void both(HookHours x, int[][] calls, int want) {
        for (int[] c : calls) {
            String told = "(" + c[0] + ", " + c[1] + ", " + c[2] + ", " + c[3] + ", " + c[4] + ")";
            due.is("bid" + told, x.bid(c[0], c[1], c[2], c[3], c[4]), want);
            due.is("wouldCost" + told, x.wouldCost(c[0], c[1], c[2], c[3], c[4]), want);
        }
    }

    private static void award() {
        due.part("promise 6");
        HookHours x = new HookHours();
        x.bid(0, 0, 1, 1, 1);
        x.award(0, 1);
        x.done(0);
        due.is("award(0, 0), done: NOT_POSSIBLE, NONE", x.award(0, 0), NOT_POSSIBLE);
        due.is("award(0, 1), awarded: NOT_POSSIBLE, NONE", x.award(0, 1), NOT_POSSIBLE);
        x.expect(1, 99);
        due.is("award(0, 1), awarded, and none is borne now", x.award(0, 1), NOT_POSSIBLE);
        due.is("award(3, 0), done: UNKNOWN", x.award(3, 0), UNKNOWN);
        due.is("award(0, 2): NONE", x.award(0, 2), NONE);
    }

    /** Crane 1 was awarded to firm 3 in the half hours 0 (done now) and 2. */
    private static HookHours owned() {
        HookHours x = new HookHours();
        x.bid(3, 1, 0, 1, 1);
        x.bid(3, 1, 2, 1, 1);
        x.award(1, 0);
        x.award(1, 2);
        x.done(0);
        x.bid(3, 2, 9, 1, 60);
        return x;
    }

    private static void trades(int[][] calls, int want) {
        HookHours x = owned();
        for (int[] c : calls) {
            String told = "trade(" + c[0] + ", " + c[1] + ", " + c[2] + ", " + c[3] + ", " + c[4] + ")";
            due.is(told, x.trade(c[0], c[1], c[2], c[3], c[4]), want);
        }
    }

    private static void tradeUnknownFirst() {
        due.part("promise 7: UNKNOWN ahead of the others");
        trades(new int[][] {{3, 2, 0, 0, 1}, {1, 16, 0, 41, 1}, {1, 2, 6, 0, 1}, {1, 2, 6, 1, 1000}, {1, 2, -1, 1, -1},
            {1, 3, 0, 0, 1}, {1, 3, 0, 1, 1000}, {1, 0, 6, 1, 1}, {0, 0, 1, 1, 1}, {1, 0, -1, 1, 1}, {0, 2, 3, 1, 1},
            {1, 3, 0, 1, 999}, {1, 2, 6, 1, 999}, {3, 2, 0, 1, 999}, {0, 0, 1, 1, 999}}, UNKNOWN);
    }

    private static void tradeBadValueSecond() {
        due.part("promise 7: BAD_VALUE ahead of NOT_POSSIBLE, TOO_POOR");
        trades(new int[][] {{1, 0, 0, 0, 1}, {1, 0, 0, 41, 1}, {1, 0, 0, 1, -1}, {1, 0, 0, 1, 1000}, {1, 2, 3, 0, 1},
            {1, 2, 3, 41, 1}, {1, 2, 3, 1, -1}, {1, 2, 3, 1, 1000}, {1, 2, 0, 0, 999}, {1, 2, 0, 41, 999},
            {1, 2, 0, 1, 1000}, {1, 2, 0, 1, Integer.MAX_VALUE}}, BAD_VALUE);
    }

    private static void tradeNotPossibleThird() {
        due.part("promise 7: NOT_POSSIBLE ahead of TOO_POOR");
        trades(new int[][] {{1, 0, 0, 1, 999}, {1, 0, 3, 1, 999}, {1, 2, 3, 1, 999}, {1, 2, 3, 1, 41}, {1, 2, 3, 1, 0},
            {1, 0, 3, 1, 0}, {1, 0, 0, 1, 0}}, NOT_POSSIBLE);
        trades(new int[][] {{1, 2, 0, 1, 101}, {1, 2, 5, 40, 999}}, TOO_POOR);
    }

    private static void done() {
        due.part("promise 8");
        HookHours x = new HookHours();
        Steps.endHours(x, 16, 0);
        due.is("done(100): BAD_VALUE, NOT_POSSIBLE", x.done(100), BAD_VALUE);
        due.is("done(-1): BAD_VALUE, NOT_POSSIBLE", x.done(-1), BAD_VALUE);
        due.is("done(99): NOT_POSSIBLE", x.done(99), NOT_POSSIBLE);
    }

    /** Beyond the 512 calls, as no run within them gets to day 999. */
    private static void nextDay() {
        due.part("promise 9");
        HookHours x = new HookHours();
        Steps.write(x, "d0,d0,d0,d0,d0,d0,d0,d0,d0,d0,d0,d0,d0,d0,d0,d0,n");
        for (int day = 1; day <= 998; day++) {
            x.perform();
        }
        Steps.endHours(x, 16, 0);
        due.is("nextDay()", x.nextDay(), 999);
        due.is("nextDay() on day 999, not ended: NOT_POSSIBLE, FULL", x.nextDay(), NOT_POSSIBLE);
        Steps.endHours(x, 15, 0);
        due.is("nextDay() on day 999, not ended: NOT_POSSIBLE, FULL", x.nextDay(), NOT_POSSIBLE);
        x.done(0);
        due.is("nextDay() on day 999, ended: FULL", x.nextDay(), FULL);
    }

    private static void perform() {
        due.part("promise 12");
        HookHours x = new HookHours();
        due.is("a fault behind an entry that would be stopped", Steps.performed(x, "n,d0,x"), -105);
        due.is("a text that ends too early behind one", Steps.performed(x, "n,d0,"), -105);
        due.is("no stop", x.stopped(0), NONE);
        due.is("stopped(2): BAD_VALUE, NONE", x.stopped(2), BAD_VALUE);
        due.is("stopped(-1): BAD_VALUE, NONE", x.stopped(-1), BAD_VALUE);
        due.is("an entry that is stopped behind one that answers NONE", Steps.performed(x, "e3:20,n"), NOT_POSSIBLE);
        due.is("stopped(0)", x.stopped(0), 1);
        due.is("the first of two that would be stopped", Steps.performed(x, "b0c0h0w21=1,n"), NOT_POSSIBLE);
        due.is("stopped(0)", x.stopped(0), 0);
        due.is("stopped(1)", x.stopped(1), BAD_VALUE);
    }

    private static void stop(String plan, int entry, int error) {
        HookHours x = crowded();
        due.is(plan, Steps.performed(x, plan), NOT_POSSIBLE);
        due.is("stopped(0) of " + plan, x.stopped(0), entry);
        due.is("stopped(1) of " + plan, x.stopped(1), error);
    }

    private static void stopsTellTheFirstError() {
        due.part("promises 12, 13: a stop tells what the method would have returned");
        stop("b0c0h0w21=999", 0, BAD_VALUE);
        stop("b0c1h5w41=1", 0, BAD_VALUE);
        stop("b0c2h2w60=999", 0, NOT_POSSIBLE);
        stop("b0c0h5w1=1", 0, NOT_POSSIBLE);
        stop("b0c0h3w1=91", 0, TOO_POOR);
        stop("b0c0h3w1=90", 0, FULL);
        stop("e0:20", 0, NOT_POSSIBLE);
        stop("e1:20,e0:20", 1, NOT_POSSIBLE);
        stop("d0,d0,d0,n", 3, NOT_POSSIBLE);
        stop("d0,d0,d0,d0,d0,d0,d0,d0,d0,d0,d0,d0,d0,d0,d0,d0", 15, NOT_POSSIBLE);
    }

    private static void tells() {
        due.part("promises 17, 18");
        HookHours x = new HookHours();
        due.is("firm(6, 7): UNKNOWN, BAD_VALUE", x.firm(6, 7), UNKNOWN);
        due.is("firm(-1, -1): UNKNOWN, BAD_VALUE", x.firm(-1, -1), UNKNOWN);
        due.is("slot(3, 0, 7): UNKNOWN, BAD_VALUE", x.slot(3, 0, 7), UNKNOWN);
        due.is("slot(0, 16, -1): UNKNOWN, BAD_VALUE", x.slot(0, 16, -1), UNKNOWN);
        due.is("slot(-1, 0, 0): UNKNOWN, NONE", x.slot(-1, 0, 0), UNKNOWN);
        due.is("slot(0, -1, 6): UNKNOWN, NONE", x.slot(0, -1, 6), UNKNOWN);
    }

    private static void cheapest() {
        due.part("promise 22");
        HookHours x = new HookHours();
        due.is("cheapest(3, 61): UNKNOWN, BAD_VALUE", x.cheapest(3, 61), UNKNOWN);
        due.is("cheapest(-1, 0): UNKNOWN, BAD_VALUE", x.cheapest(-1, 0), UNKNOWN);
        Steps.endHours(x, 16, 0);
        due.is("cheapest(3, 1): UNKNOWN, NONE", x.cheapest(3, 1), UNKNOWN);
        due.is("cheapest(2, 61): BAD_VALUE, NONE", x.cheapest(2, 61), BAD_VALUE);
        due.is("cheapest(0, 0): BAD_VALUE, NONE", x.cheapest(0, 0), BAD_VALUE);
        due.is("cheapest(2, 60): NONE", x.cheapest(2, 60), NONE);
    }
}
