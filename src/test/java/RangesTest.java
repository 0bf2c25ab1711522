import java.util.function.IntUnaryOperator;

/**
 * The ranges that the document names, for each argument of each method: every value from the first to the last is
 * taken, and the ones next to them and far from them are refused.
 */
final class RangesTest {
    private static final int UNKNOWN = -1;
    private static final int BAD_VALUE = -2;
    private static final int NOT_POSSIBLE = -4;
    private static final int NONE = -5;
    private static final Due due = new Due();

    public static void main(String[] args) {
        expect();
        fund();
        bid();
        withdraw();
        award();
        trade();
        done();
        type();
        stopped();
        firm();
        slot();
        wouldCost();
        heaviestAndWind();
        cheapest();
        count();
        noPairMakesAnotherSlot();
        due.end();
    }

    private static void range(String call, int first, int last, int error, IntUnaryOperator answer,
        IntUnaryOperator want) {
        for (int v = first; v <= last; v++) {
            due.is(call + ", v = " + v, answer.applyAsInt(v), want.applyAsInt(v));
        }
        int[] outside = {first - 1, last + 1, first - 2, last + 2, Integer.MIN_VALUE, Integer.MAX_VALUE, first - 256,
            first + 1024, first + 65536, first - 65536, -last - 1, 0x40000000, -0x40000000};
        for (int v : outside) {
            due.is(call + ", v = " + v, answer.applyAsInt(v), error);
        }
    }

    private static int lift(int crane) {
        return 20 * crane + 20;
    }

    private static void expect() {
        due.part("promise 2");
        range("expect(v, 30)", 0, 15, UNKNOWN, v -> new HookHours().expect(v, 30), v -> 20);
        range("expect(0, v)", 0, 99, BAD_VALUE, v -> new HookHours().expect(0, v), v -> v == 20 ? NONE : 20);
        for (int wind = 0; wind <= 99; wind++) {
            HookHours x = new HookHours();
            x.expect(15, wind);
            due.is("wind(15) that is expected", x.wind(15), wind);
        }
    }

    private static void fund() {
        due.part("promise 3");
        range("fund(v, 7)", 0, 5, UNKNOWN, v -> new HookHours().fund(v, 7), v -> 107);
        range("fund(3, v)", 1, 999, BAD_VALUE, v -> new HookHours().fund(3, v), v -> 100 + v);
    }

    private static HookHours rich(int firm) {
        HookHours x = new HookHours();
        x.fund(firm, 999);
        return x;
    }

    private static void bid() {
        due.part("promise 4");
        range("bid(v, 1, 7, 30, 9)", 0, 5, UNKNOWN, v -> new HookHours().bid(v, 1, 7, 30, 9), v -> 1);
        range("bid(2, v, 7, 20, 9)", 0, 2, UNKNOWN, v -> new HookHours().bid(2, v, 7, 20, 9), v -> 1);
        range("bid(2, 1, v, 20, 9)", 0, 15, UNKNOWN, v -> new HookHours().bid(2, 1, v, 20, 9), v -> 1);
        for (int i = 0; i < 3; i++) {
            int crane = i;
            range("bid(2, " + crane + ", 7, v, 9)", 1, lift(crane), BAD_VALUE,
                v -> new HookHours().bid(2, crane, 7, v, 9), v -> 1);
        }
        range("bid(2, 1, 7, 20, v)", 1, 999, BAD_VALUE, v -> rich(2).bid(2, 1, 7, 20, v), v -> 1);
    }

    private static void withdraw() {
        due.part("promise 5");
        range("withdraw(v, 1, 7)", 0, 5, UNKNOWN, v -> bidsOfAll().withdraw(v, 1, 7), v -> 21 + v);
        range("withdraw(3, v, 7)", 0, 2, UNKNOWN, v -> bidsOfAll().withdraw(3, v, 7), v -> 14 + 10 * v);
        range("withdraw(3, 1, v)", 0, 15, UNKNOWN, v -> bidsOfFirm3().withdraw(3, 1, v), v -> 1 + v);
    }

    /** Each firm bids for each crane in half hour 7, all of them different offers. */
    private static HookHours bidsOfAll() {
        HookHours x = new HookHours();
        for (int firm = 0; firm < 6; firm++) {
            for (int crane = 0; crane < 3; crane++) {
                x.bid(firm, crane, 7, 5, 11 + 10 * crane + firm);
            }
        }
        return x;
    }

    /** Firm 3 bids for crane 1 in each half hour, all of them different offers. */
    private static HookHours bidsOfFirm3() {
        HookHours x = rich(3);
        for (int hour = 0; hour < 16; hour++) {
            x.bid(3, 1, hour, 5, 1 + hour);
        }
        return x;
    }

    private static void award() {
        due.part("promise 6");
        range("award(v, 7)", 0, 2, UNKNOWN, v -> bidsOfAll().award(v, 7), v -> 5);
        range("award(1, v)", 0, 15, UNKNOWN, v -> bidsOfFirm3().award(1, v), v -> 3);
    }

    private static HookHours awarded(int crane, int hour) {
        HookHours x = new HookHours();
        x.bid(2, crane, hour, 5, 9);
        x.award(crane, hour);
        x.fund(4, 899);
        return x;
    }

    private static void trade() {
        due.part("promise 7");
        range("trade(v, 7, 4, 20, 9)", 0, 2, UNKNOWN, v -> awarded(v, 7).trade(v, 7, 4, 20, 9), v -> 109);
        range("trade(1, v, 4, 20, 9)", 0, 15, UNKNOWN, v -> awarded(1, v).trade(1, v, 4, 20, 9), v -> 109);
        range("trade(1, 7, v, 20, 9)", 0, 5, UNKNOWN, v -> awarded(1, 7).trade(1, 7, v, 20, 9),
            v -> v == 2 ? NOT_POSSIBLE : 109);
        for (int i = 0; i < 3; i++) {
            int crane = i;
            range("trade(" + crane + ", 7, 4, v, 9)", 1, lift(crane), BAD_VALUE,
                v -> awarded(crane, 7).trade(crane, 7, 4, v, 9), v -> 109);
        }
        range("trade(1, 7, 4, 20, v)", 0, 999, BAD_VALUE, v -> awarded(1, 7).trade(1, 7, 4, 20, v), v -> 100 + v);
    }

    private static void done() {
        due.part("promise 8");
        range("done(v)", 0, 99, BAD_VALUE, v -> new HookHours().done(v), v -> 0);
        for (int wind = 0; wind <= 99; wind++) {
            HookHours x = new HookHours();
            x.done(wind);
            due.is("wind(0) that blew", x.wind(0), wind);
        }
    }

    private static void type() {
        due.part("promise 10");
        for (int first = 0; first < 65536; first += 64) {
            HookHours x = new HookHours();
            for (int i = 0; i < 64; i++) {
                due.is("type((char) " + (first + i) + ")", x.type((char) (first + i)), i + 1);
            }
        }
    }

    private static void stopped() {
        due.part("promise 13");
        HookHours x = new HookHours();
        range("stopped(v) without a stop", 0, 1, BAD_VALUE, x::stopped, v -> NONE);
        HookHours y = new HookHours();
        due.is("a plan", Steps.performed(y, "d0,d0,n"), NOT_POSSIBLE);
        range("stopped(v)", 0, 1, BAD_VALUE, y::stopped, v -> v == 0 ? 2 : NOT_POSSIBLE);
    }

    private static void firm() {
        due.part("promise 17");
        HookHours x = new HookHours();
        int[] own = {100, 0, 0, 0, 0, 0, 0};
        range("firm(v, 0)", 0, 5, UNKNOWN, v -> x.firm(v, 0), v -> 100);
        range("firm(5, v)", 0, 6, BAD_VALUE, v -> x.firm(5, v), v -> own[v]);
    }

    private static void slot() {
        due.part("promise 18");
        HookHours x = new HookHours();
        int[] empty = {NONE, 0, 0, 0, 0, 0, NONE};
        range("slot(v, 15, 3)", 0, 2, UNKNOWN, v -> x.slot(v, 15, 3), v -> 0);
        range("slot(2, v, 3)", 0, 15, UNKNOWN, v -> x.slot(2, v, 3), v -> 0);
        range("slot(2, 15, v)", 0, 6, BAD_VALUE, v -> x.slot(2, 15, v), v -> empty[v]);
    }

    private static void wouldCost() {
        due.part("promise 19");
        HookHours x = new HookHours();
        range("wouldCost(v, 1, 7, 30, 9)", 0, 5, UNKNOWN, v -> x.wouldCost(v, 1, 7, 30, 9), v -> 0);
        range("wouldCost(2, v, 7, 20, 9)", 0, 2, UNKNOWN, v -> x.wouldCost(2, v, 7, 20, 9), v -> 0);
        range("wouldCost(2, 1, v, 20, 9)", 0, 15, UNKNOWN, v -> x.wouldCost(2, 1, v, 20, 9), v -> 0);
        for (int i = 0; i < 3; i++) {
            int crane = i;
            range("wouldCost(2, " + crane + ", 7, v, 9)", 1, lift(crane), BAD_VALUE,
                v -> new HookHours().wouldCost(2, crane, 7, v, 9), v -> v <= 50 ? 0 : NONE);
        }
        range("wouldCost(2, 1, 7, 20, v)", 1, 999, BAD_VALUE, v -> rich(2).wouldCost(2, 1, 7, 20, v), v -> 0);
    }

    private static void heaviestAndWind() {
        due.part("promises 20, 21");
        HookHours x = new HookHours();
        range("heaviest(v, 15)", 0, 2, UNKNOWN, v -> x.heaviest(v, 15), v -> Math.min(lift(v), 50));
        range("heaviest(2, v)", 0, 15, UNKNOWN, v -> x.heaviest(2, v), v -> 50);
        range("wind(v)", 0, 15, UNKNOWN, x::wind, v -> 20);
    }

    private static void cheapest() {
        due.part("promise 22");
        range("cheapest(v, 1)", 0, 2, UNKNOWN, v -> new HookHours().cheapest(v, 1), v -> 0);
        for (int i = 0; i < 3; i++) {
            int crane = i;
            range("cheapest(" + crane + ", v)", 1, lift(crane), BAD_VALUE, v -> new HookHours().cheapest(crane, v),
                v -> v <= 50 ? 0 : NONE);
        }
    }

    private static void count() {
        due.part("promise 23");
        HookHours x = new HookHours();
        range("count(v)", 0, 15, BAD_VALUE, x::count, v -> v == 10 || v == 11 ? 600 : 0);
    }

    /** A crane or half hour that is not there is none, also where a sum of both would be one that is. */
    private static void noPairMakesAnotherSlot() {
        due.part("3 cranes, 6 firms, 16 half hours");
        for (int crane = -5; crane <= 8; crane++) {
            for (int hour = -50; hour <= 100; hour++) {
                if (crane < 0 || crane > 2 || hour < 0 || hour > 15) {
                    HookHours x = new HookHours();
                    String slot = "(" + crane + ", " + hour + ")";
                    due.is("bid" + slot, x.bid(1, crane, hour, 1, 1), UNKNOWN);
                    due.is("wouldCost" + slot, x.wouldCost(1, crane, hour, 1, 1), UNKNOWN);
                    x.bid(1, 1, 3, 5, 9);
                    x.bid(1, 1, 4, 5, 9);
                    x.award(1, 4);
                    due.is("withdraw" + slot, x.withdraw(1, crane, hour), UNKNOWN);
                    due.is("withdraw" + slot + " of firm 0", x.withdraw(0, crane, hour), UNKNOWN);
                    due.is("award" + slot, x.award(crane, hour), UNKNOWN);
                    due.is("trade" + slot, x.trade(crane, hour, 0, 1, 1), UNKNOWN);
                    due.is("slot" + slot, x.slot(crane, hour, 3), UNKNOWN);
                    due.is("heaviest" + slot, x.heaviest(crane, hour), UNKNOWN);
                    due.is("count(14)", x.count(14), 3);
                }
            }
        }
    }
}
