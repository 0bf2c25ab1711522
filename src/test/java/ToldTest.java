/** Promises 17 to 23: what is told. */
final class ToldTest {
    private static final int LOW = Integer.MIN_VALUE;
    private static final int HIGH = Integer.MAX_VALUE;
    private static final Due due = new Due();

    public static void main(String[] args) {
        firmTells();
        firmRefuses();
        slotTells();
        slotRefuses();
        wouldCostTells();
        wouldCostOfEqualOffers();
        wouldCostRefuses();
        wouldCostIsWhatIsPaid();
        heaviestTells();
        heaviestRefuses();
        windTells();
        cheapestTells();
        cheapestRefuses();
        countTells();
        countRefuses();
        accountsAddUp();
        due.end();
    }

    private static void row(HookHours x, int firm, int... want) {
        for (int what = 0; what < want.length; what++) {
            due.is("firm(" + firm + ", " + what + ")", x.firm(firm, what), want[what]);
        }
    }

    private static void firmTells() {
        due.part("promise 17");
        HookHours x = new HookHours();
        x.fund(0, 100);
        x.bid(0, 0, 0, 20, 50);
        x.bid(1, 0, 0, 20, 30);
        x.bid(0, 1, 0, 20, 40);
        x.bid(0, 1, 5, 20, 20);
        x.bid(0, 2, 5, 20, 10);
        row(x, 0, 200, 120, 4, 0, 0, 0, 0);
        x.award(0, 0);
        x.award(1, 0);
        x.award(1, 5);
        row(x, 0, 170, 10, 1, 3, 0, 30, 0);
        x.trade(1, 5, 1, 40, 15);
        row(x, 0, 185, 10, 1, 2, 0, 30, 15);
        row(x, 1, 85, 0, 0, 1, 0, 0, -15);
        x.done(50);
        row(x, 0, 185, 10, 1, 0, 2, 30, 15);
        row(x, 1, 85, 0, 0, 1, 0, 0, -15);
        x.bid(3, 0, 1, 20, 9);
        x.bid(4, 0, 1, 20, 8);
        x.done(51);
        row(x, 3, 100, 0, 0, 0, 0, 0, 0);
        Steps.endHours(x, 14, 0);
        row(x, 0, 185, 0, 0, 0, 3, 30, 15);
        row(x, 1, 85, 0, 0, 0, 1, 0, -15);
    }

    private static void firmRefuses() {
        due.part("promise 17");
        HookHours x = new HookHours();
        due.is("firm(-1, 0)", x.firm(-1, 0), -1);
        due.is("firm(6, 7)", x.firm(6, 7), -1);
        due.is("firm(low, 0)", x.firm(LOW, 0), -1);
        due.is("firm(high, 0)", x.firm(HIGH, 0), -1);
        due.is("firm(0, -1)", x.firm(0, -1), -2);
        due.is("firm(0, 7)", x.firm(0, 7), -2);
        due.is("firm(5, high)", x.firm(5, HIGH), -2);
    }

    private static void slots(HookHours x, int crane, int hour, int... want) {
        for (int what = 0; what < want.length; what++) {
            due.is("slot(" + crane + ", " + hour + ", " + what + ")", x.slot(crane, hour, what), want[what]);
        }
    }

    private static void slotTells() {
        due.part("promise 18");
        HookHours x = new HookHours();
        x.expect(0, 65);
        x.bid(0, 2, 0, 60, 70);
        x.bid(1, 2, 0, 4, 30);
        x.bid(2, 2, 0, 5, 40);
        slots(x, 2, 0, -5, 0, 0, 3, 70, 0, -5);
        x.bid(0, 1, 0, 6, 30);
        slots(x, 1, 0, -5, 0, 0, 1, 30, 0, -5);
        x.award(2, 0);
        slots(x, 2, 0, 2, 5, 30, 0, 0, 0, -5);
        x.done(65);
        slots(x, 0, 0, -5, 0, 0, 0, 0, 1, 1);
        slots(x, 1, 0, -5, 0, 0, 0, 0, 1, 2);
        slots(x, 2, 0, 2, 5, 30, 0, 0, 1, 0);
        x.bid(5, 0, 1, 15, 30);
        x.bid(4, 0, 1, 15, 29);
        x.done(60);
        slots(x, 0, 1, 5, 15, 29, 0, 0, 1, 3);
        slots(x, 0, 2, -5, 0, 0, 0, 0, 0, -5);
    }

    private static void slotRefuses() {
        due.part("promise 18");
        HookHours x = new HookHours();
        due.is("slot(-1, 0, 0)", x.slot(-1, 0, 0), -1);
        due.is("slot(3, 0, 0)", x.slot(3, 0, 0), -1);
        due.is("slot(0, -1, 0)", x.slot(0, -1, 0), -1);
        due.is("slot(0, 16, 9)", x.slot(0, 16, 9), -1);
        due.is("slot(low, high, 0)", x.slot(LOW, HIGH, 0), -1);
        due.is("slot(0, 0, -1)", x.slot(0, 0, -1), -2);
        due.is("slot(0, 0, 7)", x.slot(0, 0, 7), -2);
        due.is("slot(2, 15, low)", x.slot(2, 15, LOW), -2);
    }

    private static void wouldCostTells() {
        due.part("promise 19");
        HookHours x = new HookHours();
        due.is("wouldCost(0, 2, 0, 50, 1)", x.wouldCost(0, 2, 0, 50, 1), 0);
        due.is("wouldCost(0, 2, 0, 51, 1)", x.wouldCost(0, 2, 0, 51, 1), -5);
        x.bid(1, 2, 0, 60, 90);
        due.is("wouldCost(0, 2, 0, 50, 1), the other is not borne", x.wouldCost(0, 2, 0, 50, 1), 0);
        x.bid(2, 2, 0, 50, 40);
        x.bid(3, 2, 0, 1, 30);
        due.is("wouldCost(0, 2, 0, 50, 39)", x.wouldCost(0, 2, 0, 50, 39), -5);
        due.is("wouldCost(0, 2, 0, 50, 41)", x.wouldCost(0, 2, 0, 50, 41), 40);
        due.is("wouldCost(5, 2, 0, 50, 100)", x.wouldCost(5, 2, 0, 50, 100), 40);
        x.expect(0, 10);
        due.is("wouldCost(0, 2, 0, 60, 100)", x.wouldCost(0, 2, 0, 60, 100), 90);
        due.is("count(2), nothing is changed", x.count(2), 3);
        due.is("count(14)", x.count(14), 4);
    }

    private static void wouldCostOfEqualOffers() {
        due.part("promise 19");
        HookHours x = new HookHours();
        x.bid(2, 0, 0, 5, 40);
        x.bid(4, 0, 0, 5, 40);
        due.is("wouldCost(1, 0, 0, 5, 40)", x.wouldCost(1, 0, 0, 5, 40), 40);
        due.is("wouldCost(3, 0, 0, 5, 40)", x.wouldCost(3, 0, 0, 5, 40), -5);
        due.is("wouldCost(5, 0, 0, 5, 40)", x.wouldCost(5, 0, 0, 5, 40), -5);
        due.is("wouldCost(5, 0, 0, 5, 41)", x.wouldCost(5, 0, 0, 5, 41), 40);
    }

    private static void wouldCostRefuses() {
        due.part("promise 19");
        HookHours x = new HookHours();
        x.bid(0, 0, 1, 5, 60);
        x.bid(1, 1, 1, 5, 60);
        x.award(1, 1);
        x.done(0);
        due.is("wouldCost(6, 0, 1, 1, 1)", x.wouldCost(6, 0, 1, 1, 1), -1);
        due.is("wouldCost(0, 3, 1, 1, 1)", x.wouldCost(0, 3, 1, 1, 1), -1);
        due.is("wouldCost(0, 0, 16, 0, 0)", x.wouldCost(0, 0, 16, 0, 0), -1);
        due.is("wouldCost(low, low, low, low, low)", x.wouldCost(LOW, LOW, LOW, LOW, LOW), -1);
        due.is("wouldCost(0, 0, 0, 21, 1)", x.wouldCost(0, 0, 0, 21, 1), -2);
        due.is("wouldCost(0, 0, 1, 1, 0)", x.wouldCost(0, 0, 1, 1, 0), -2);
        due.is("wouldCost(0, 0, 1, 1, 1000)", x.wouldCost(0, 0, 1, 1, 1000), -2);
        due.is("wouldCost(0, 0, 0, 1, 1) when it is done", x.wouldCost(0, 0, 0, 1, 1), -4);
        due.is("wouldCost(0, 1, 1, 1, 1) when it is awarded", x.wouldCost(0, 1, 1, 1, 1), -4);
        due.is("wouldCost(0, 0, 1, 1, 99) when there is a bid", x.wouldCost(0, 0, 1, 1, 99), -4);
        due.is("wouldCost(0, 0, 2, 1, 41)", x.wouldCost(0, 0, 2, 1, 41), -6);
        due.is("wouldCost(0, 2, 2, 60, 41), ahead of NONE", x.wouldCost(0, 2, 2, 60, 41), -6);
        due.is("wouldCost(0, 0, 2, 1, 40)", x.wouldCost(0, 0, 2, 1, 40), 0);
        HookHours y = new HookHours();
        Steps.fillBids(y);
        due.is("wouldCost(0, 0, 0, 1, 91)", y.wouldCost(0, 0, 0, 1, 91), -6);
        due.is("wouldCost(0, 0, 0, 1, 1)", y.wouldCost(0, 0, 0, 1, 1), -3);
        due.is("wouldCost(0, 2, 0, 60, 1), ahead of NONE", y.wouldCost(0, 2, 0, 60, 1), -3);
    }

    private static void wouldCostIsWhatIsPaid() {
        due.part("promise 19");
        int seed = 7;
        for (int run = 0; run < 300; run++) {
            HookHours x = new HookHours();
            for (int firm = 0; firm < 6; firm++) {
                seed = seed * 1103515245 + 12345;
                int coins = 1 + (seed >>> 16) % 8;
                int weight = 45 + (seed >>> 20) % 8;
                int cost = x.wouldCost(firm, 2, 0, weight, coins);
                x.bid(firm, 2, 0, weight, coins);
                int got = x.award(2, 0);
                due.is("award after wouldCost", got == firm ? x.slot(2, 0, 2) : -5, cost);
                if (got >= 0) {
                    x.undo();
                }
            }
        }
    }

    private static void heaviestTells() {
        due.part("promise 20");
        int[] lifts = {20, 40, 60};
        for (int crane = 0; crane < 3; crane++) {
            HookHours x = new HookHours();
            for (int wind = 0; wind <= 99; wind++) {
                x.expect(3, wind);
                int want = Math.min(lifts[crane], Math.max(0, 70 - wind));
                due.is("heaviest(" + crane + ", 3) at " + wind, x.heaviest(crane, 3), want);
            }
            due.is("heaviest(.., 4)", x.heaviest(crane, 4), Math.min(lifts[crane], 50));
        }
        HookHours x = new HookHours();
        x.expect(0, 55);
        x.done(5);
        due.is("heaviest(0, 0) by the expected wind", x.heaviest(0, 0), 15);
        due.is("wind(0)", x.wind(0), 5);
    }

    private static void heaviestRefuses() {
        due.part("promise 20");
        HookHours x = new HookHours();
        due.is("heaviest(-1, 0)", x.heaviest(-1, 0), -1);
        due.is("heaviest(3, 0)", x.heaviest(3, 0), -1);
        due.is("heaviest(0, -1)", x.heaviest(0, -1), -1);
        due.is("heaviest(0, 16)", x.heaviest(0, 16), -1);
        due.is("heaviest(high, low)", x.heaviest(HIGH, LOW), -1);
    }

    private static void windTells() {
        due.part("promise 21");
        HookHours x = new HookHours();
        x.expect(0, 31);
        x.expect(15, 32);
        due.is("wind(0)", x.wind(0), 31);
        due.is("wind(15)", x.wind(15), 32);
        x.done(33);
        due.is("wind(0)", x.wind(0), 33);
        due.is("wind(1)", x.wind(1), 20);
        Steps.endHours(x, 15, 99);
        due.is("wind(15)", x.wind(15), 99);
        due.is("wind(-1)", x.wind(-1), -1);
        due.is("wind(16)", x.wind(16), -1);
        due.is("wind(low)", x.wind(LOW), -1);
        due.is("wind(high)", x.wind(HIGH), -1);
    }

    private static void cheapestTells() {
        due.part("promise 22");
        HookHours x = new HookHours();
        due.is("cheapest(0, 20)", x.cheapest(0, 20), 0);
        x.done(0);
        due.is("cheapest(0, 20), 0 is done", x.cheapest(0, 20), 1);
        for (int hour = 1; hour < 16; hour++) {
            x.bid(hour % 6, 0, hour, 20, 20 - hour % 10);
        }
        due.is("cheapest(0, 20), the first of two", x.cheapest(0, 20), 9);
        x.bid(5, 0, 9, 20, 12);
        due.is("cheapest(0, 20), the highest counts", x.cheapest(0, 20), 8);
        x.award(0, 8);
        due.is("cheapest(0, 20), 8 is awarded", x.cheapest(0, 20), 9);
        x.expect(9, 55);
        due.is("cheapest(0, 15)", x.cheapest(0, 15), 9);
        due.is("cheapest(0, 16)", x.cheapest(0, 16), 7);
        x.expect(7, 99);
        due.is("cheapest(0, 16)", x.cheapest(0, 16), 6);
        due.is("cheapest(1, 40)", x.cheapest(1, 40), 1);
        x.bid(5, 2, 1, 60, 1);
        due.is("cheapest(2, 10), a bid that is not borne counts", x.cheapest(2, 10), 2);
        due.is("cheapest(2, 51)", x.cheapest(2, 51), -5);
        x.expect(15, 10);
        due.is("cheapest(2, 60)", x.cheapest(2, 60), 15);
    }

    private static void cheapestRefuses() {
        due.part("promise 22");
        HookHours x = new HookHours();
        due.is("cheapest(-1, 1)", x.cheapest(-1, 1), -1);
        due.is("cheapest(3, 0)", x.cheapest(3, 0), -1);
        due.is("cheapest(high, 1)", x.cheapest(HIGH, 1), -1);
        due.is("cheapest(0, 0)", x.cheapest(0, 0), -2);
        due.is("cheapest(0, 21)", x.cheapest(0, 21), -2);
        due.is("cheapest(1, 41)", x.cheapest(1, 41), -2);
        due.is("cheapest(2, 61)", x.cheapest(2, 61), -2);
        due.is("cheapest(2, low)", x.cheapest(2, LOW), -2);
        Steps.endHours(x, 16, 0);
        due.is("cheapest(0, 1)", x.cheapest(0, 1), -5);
        due.is("cheapest(0, 21)", x.cheapest(0, 21), -2);
    }

    private static void counts(HookHours x, int... want) {
        for (int what = 0; what < want.length; what++) {
            due.is("count(" + what + ")", x.count(what), want[what]);
        }
    }

    private static void countTells() {
        due.part("promise 23");
        HookHours x = new HookHours();
        x.fund(2, 50);
        x.expect(0, 60);
        x.bid(0, 0, 0, 10, 30);
        x.bid(1, 0, 0, 10, 20);
        x.bid(2, 1, 0, 11, 20);
        x.bid(2, 2, 1, 11, 20);
        x.bid(3, 2, 1, 11, 10);
        counts(x, 0, 0, 5, 0, 0, 0, 0, 0, 0, 0, 650, 650, 0, 0, 4, 0);
        x.award(0, 0);
        x.award(2, 1);
        counts(x, 0, 0, 1, 2, 0, 0, 0, 0, 30, 0, 620, 650, 0, 0, 4, 0);
        x.trade(2, 1, 5, 9, 99);
        x.type('x');
        x.done(60);
        counts(x, 0, 1, 0, 1, 1, 1, 1, 0, 30, 0, 620, 650, 1, 10, 4, 1);
        x.done(62);
        counts(x, 0, 2, 0, 0, 1, 3, 1, 1, 20, 10, 630, 650, 1, 10, 4, 1);
        Steps.endHours(x, 14, 0);
        counts(x, 0, 16, 0, 0, 1, 45, 1, 1, 20, 10, 630, 650, 1, 10, 4, 1);
        x.nextDay();
        counts(x, 1, 0, 0, 0, 1, 45, 1, 1, 20, 10, 630, 650, 1, 10, 4, 1);
        x.undo();
        x.undo();
        counts(x, 0, 15, 0, 0, 1, 42, 1, 1, 20, 10, 630, 650, 1, 10, 2, 1);
    }

    private static void countRefuses() {
        due.part("promise 23");
        HookHours x = new HookHours();
        due.is("count(-1)", x.count(-1), -2);
        due.is("count(16)", x.count(16), -2);
        due.is("count(low)", x.count(LOW), -2);
        due.is("count(high)", x.count(HIGH), -2);
    }

    /** What came into purses is in them or with the yard; every half hour of a crane has a lift or a reason. */
    private static void accountsAddUp() {
        due.part("promise 23");
        HookHours x = new HookHours();
        int seed = 99;
        for (int call = 0; call < 500; call++) {
            seed = seed * 1103515245 + 12345;
            int a = (seed >>> 8) % 6;
            int b = (seed >>> 12) % 3;
            int c = (seed >>> 16) % 16;
            switch ((seed >>> 24) % 8) {
                case 0 -> x.done((seed >>> 20) % 70);
                case 1 -> x.nextDay();
                case 2 -> x.award(b, c);
                case 3 -> x.trade(b, c, a, 1 + c, a * 3);
                case 4 -> x.fund(a, 1 + c);
                default -> x.bid(a, b, c, 1 + c, 1 + (seed >>> 20) % 30);
            }
            due.is("count(8) + count(10)", x.count(8) + x.count(10), x.count(11));
            int slots = x.count(4) + x.count(5) + x.count(6) + x.count(7);
            due.is("lifts and reasons", slots, 3 * (16 * x.count(0) + x.count(1)));
            int paid = 0;
            int traded = 0;
            for (int firm = 0; firm < 6; firm++) {
                paid += x.firm(firm, 5);
                traded += x.firm(firm, 6);
                due.holds("no firm offers more than it has", x.firm(firm, 1) <= x.firm(firm, 0));
            }
            due.is("what the firms paid", paid, x.count(8));
            due.is("what the firms traded", traded, 0);
        }
    }
}
