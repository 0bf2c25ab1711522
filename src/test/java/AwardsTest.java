/** Promises 6 to 9: awards, trades, half hours that are done, the next day. */
final class AwardsTest {
    private static final int LOW = Integer.MIN_VALUE;
    private static final int HIGH = Integer.MAX_VALUE;
    private static final Due due = new Due();

    public static void main(String[] args) {
        awardGoesToTheHighest();
        awardCountsWhatIsBorne();
        awardOfEqualOffers();
        awardRefuses();
        tradeTells();
        tradeRefuses();
        tradeChecksInOrder();
        doneMakesLifts();
        doneTellsReasons();
        doneAwardsByTheExpectedWind();
        doneRefundsTheOneThatHasIt();
        doneRefuses();
        nextDayBeginsEmpty();
        nextDayRefuses();
        nextDayEnds();
        due.end();
    }

    private static void awardGoesToTheHighest() {
        due.part("promise 6");
        HookHours x = new HookHours();
        x.bid(0, 1, 3, 11, 30);
        x.bid(4, 1, 3, 12, 50);
        x.bid(2, 1, 3, 13, 40);
        x.bid(4, 2, 3, 14, 5);
        due.is("award(1, 3)", x.award(1, 3), 4);
        due.is("slot(1, 3, 0)", x.slot(1, 3, 0), 4);
        due.is("slot(1, 3, 1)", x.slot(1, 3, 1), 12);
        due.is("slot(1, 3, 2)", x.slot(1, 3, 2), 40);
        due.is("slot(1, 3, 3)", x.slot(1, 3, 3), 0);
        due.is("slot(1, 3, 4)", x.slot(1, 3, 4), 0);
        due.is("firm(4, 0)", x.firm(4, 0), 60);
        due.is("firm(4, 1)", x.firm(4, 1), 5);
        due.is("firm(4, 5)", x.firm(4, 5), 40);
        due.is("firm(0, 0)", x.firm(0, 0), 100);
        due.is("firm(0, 1)", x.firm(0, 1), 0);
        due.is("count(2)", x.count(2), 1);
        due.is("count(3)", x.count(3), 1);
        due.is("count(8)", x.count(8), 40);
        due.is("count(10)", x.count(10), 560);
        due.is("count(14)", x.count(14), 4);
        due.is("award(2, 3), the only one", x.award(2, 3), 4);
        due.is("slot(2, 3, 2)", x.slot(2, 3, 2), 0);
        due.is("firm(4, 0)", x.firm(4, 0), 60);
    }

    private static void awardCountsWhatIsBorne() {
        due.part("promise 6");
        HookHours x = new HookHours();
        x.expect(0, 40);
        x.bid(0, 2, 0, 31, 90);
        x.bid(1, 2, 0, 30, 20);
        x.bid(2, 2, 0, 60, 80);
        x.bid(3, 2, 0, 1, 10);
        due.is("award(2, 0)", x.award(2, 0), 1);
        due.is("slot(2, 0, 1)", x.slot(2, 0, 1), 30);
        due.is("slot(2, 0, 2)", x.slot(2, 0, 2), 10);
        due.is("count(2)", x.count(2), 0);
        x.bid(0, 2, 1, 50, 5);
        due.is("award(2, 1) at 20", x.award(2, 1), 0);
        x.bid(0, 2, 2, 51, 5);
        due.is("award(2, 2) at 20", x.award(2, 2), -5);
        due.is("slot(2, 2, 3)", x.slot(2, 2, 3), 1);
        x.expect(2, 19);
        due.is("award(2, 2) at 19", x.award(2, 2), 0);
    }

    private static void awardOfEqualOffers() {
        due.part("promise 6");
        HookHours x = new HookHours();
        x.bid(5, 0, 0, 1, 30);
        x.bid(3, 0, 0, 2, 30);
        x.bid(1, 0, 0, 3, 29);
        due.is("award(0, 0)", x.award(0, 0), 3);
        due.is("slot(0, 0, 1)", x.slot(0, 0, 1), 2);
        due.is("slot(0, 0, 2)", x.slot(0, 0, 2), 30);
    }

    private static void awardRefuses() {
        due.part("promise 6");
        HookHours x = new HookHours();
        due.is("award(-1, 0)", x.award(-1, 0), -1);
        due.is("award(3, 0)", x.award(3, 0), -1);
        due.is("award(0, -1)", x.award(0, -1), -1);
        due.is("award(0, 16)", x.award(0, 16), -1);
        due.is("award(low, high)", x.award(LOW, HIGH), -1);
        due.is("award(0, 0) without bids", x.award(0, 0), -5);
        due.is("count(14)", x.count(14), 0);
        x.bid(0, 0, 1, 1, 1);
        x.award(0, 1);
        due.is("award(0, 1) again", x.award(0, 1), -4);
        x.done(0);
        due.is("award(1, 0) when it is done", x.award(1, 0), -4);
        due.is("count(14)", x.count(14), 3);
    }

    private static void tradeTells() {
        due.part("promise 7");
        HookHours x = new HookHours();
        x.bid(0, 1, 2, 10, 30);
        x.bid(1, 1, 2, 10, 20);
        x.award(1, 2);
        due.is("trade(1, 2, 3, 40, 100)", x.trade(1, 2, 3, 40, 100), 180);
        due.is("slot(1, 2, 0)", x.slot(1, 2, 0), 3);
        due.is("slot(1, 2, 1)", x.slot(1, 2, 1), 40);
        due.is("slot(1, 2, 2) stays", x.slot(1, 2, 2), 20);
        due.is("firm(3, 0)", x.firm(3, 0), 0);
        due.is("firm(3, 3)", x.firm(3, 3), 1);
        due.is("firm(0, 3)", x.firm(0, 3), 0);
        due.is("firm(3, 5)", x.firm(3, 5), 0);
        due.is("firm(0, 5)", x.firm(0, 5), 20);
        due.is("firm(3, 6)", x.firm(3, 6), -100);
        due.is("firm(0, 6)", x.firm(0, 6), 100);
        due.is("count(12)", x.count(12), 1);
        due.is("count(14)", x.count(14), 4);
        due.is("trade(1, 2, 0, 1, 0)", x.trade(1, 2, 0, 1, 0), 0);
        due.is("slot(1, 2, 0)", x.slot(1, 2, 0), 0);
        due.is("slot(1, 2, 1)", x.slot(1, 2, 1), 1);
        due.is("count(8)", x.count(8), 20);
        due.is("count(12)", x.count(12), 2);
    }

    private static void tradeRefuses() {
        due.part("promise 7");
        HookHours x = new HookHours();
        x.bid(0, 1, 2, 10, 30);
        due.is("trade(1, 2, 3, 1, 1) before the award", x.trade(1, 2, 3, 1, 1), -1);
        x.award(1, 2);
        due.is("trade(-1, 2, 3, 1, 1)", x.trade(-1, 2, 3, 1, 1), -1);
        due.is("trade(3, 2, 3, 1, 1)", x.trade(3, 2, 3, 1, 1), -1);
        due.is("trade(1, -1, 3, 1, 1)", x.trade(1, -1, 3, 1, 1), -1);
        due.is("trade(1, 16, 3, 1, 1)", x.trade(1, 16, 3, 1, 1), -1);
        due.is("trade(1, 2, -1, 1, 1)", x.trade(1, 2, -1, 1, 1), -1);
        due.is("trade(1, 2, 6, 1, 1)", x.trade(1, 2, 6, 1, 1), -1);
        due.is("trade(1, 2, 3, 0, 1)", x.trade(1, 2, 3, 0, 1), -2);
        due.is("trade(1, 2, 3, 41, 1)", x.trade(1, 2, 3, 41, 1), -2);
        due.is("trade(1, 2, 3, 1, -1)", x.trade(1, 2, 3, 1, -1), -2);
        due.is("trade(1, 2, 3, 1, 1000)", x.trade(1, 2, 3, 1, 1000), -2);
        due.is("trade(1, 2, 3, high, low)", x.trade(1, 2, 3, HIGH, LOW), -2);
        due.is("trade(1, 2, 0, 1, 1)", x.trade(1, 2, 0, 1, 1), -4);
        due.is("trade(1, 2, 3, 1, 101)", x.trade(1, 2, 3, 1, 101), -6);
        x.bid(3, 0, 5, 1, 40);
        due.is("trade(1, 2, 3, 1, 61)", x.trade(1, 2, 3, 1, 61), -6);
        due.is("count(12)", x.count(12), 0);
        due.is("trade(1, 2, 3, 1, 60)", x.trade(1, 2, 3, 1, 60), 160);
    }

    private static void tradeChecksInOrder() {
        due.part("promise 7");
        HookHours x = new HookHours();
        x.bid(0, 1, 0, 10, 30);
        x.award(1, 0);
        due.is("trade(0, 0, 1, 0, -1)", x.trade(0, 0, 1, 0, -1), -1);
        due.is("trade(1, 0, 0, 0, 1)", x.trade(1, 0, 0, 0, 1), -2);
        due.is("trade(1, 0, 0, 1, 999)", x.trade(1, 0, 0, 1, 999), -4);
        x.done(0);
        due.is("trade(1, 0, 6, 1, 1) when it is done", x.trade(1, 0, 6, 1, 1), -1);
        due.is("trade(1, 0, 2, 41, 1) when it is done", x.trade(1, 0, 2, 41, 1), -2);
        due.is("trade(1, 0, 2, 1, 999) when it is done", x.trade(1, 0, 2, 1, 999), -4);
        due.is("trade(0, 0, 2, 1, 1) when it is done, not awarded", x.trade(0, 0, 2, 1, 1), -1);
        due.is("count(14)", x.count(14), 3);
    }

    private static void doneMakesLifts() {
        due.part("promise 8");
        HookHours x = new HookHours();
        x.bid(0, 0, 0, 20, 30);
        x.bid(1, 0, 0, 20, 20);
        x.bid(1, 1, 0, 40, 10);
        x.bid(2, 2, 0, 50, 10);
        x.award(1, 0);
        due.is("done(20)", x.done(20), 3);
        due.is("count(1)", x.count(1), 1);
        due.is("count(2)", x.count(2), 0);
        due.is("count(3)", x.count(3), 0);
        due.is("count(4)", x.count(4), 3);
        due.is("count(8)", x.count(8), 20);
        due.is("count(13)", x.count(13), 110);
        due.is("firm(0, 0)", x.firm(0, 0), 80);
        due.is("firm(0, 3)", x.firm(0, 3), 0);
        due.is("firm(0, 4)", x.firm(0, 4), 1);
        due.is("firm(1, 4)", x.firm(1, 4), 1);
        for (int crane = 0; crane < 3; crane++) {
            due.is("slot(" + crane + ", 0, 5)", x.slot(crane, 0, 5), 1);
            due.is("slot(" + crane + ", 0, 6)", x.slot(crane, 0, 6), 0);
        }
        due.is("slot(0, 0, 0)", x.slot(0, 0, 0), 0);
        due.is("slot(0, 0, 2)", x.slot(0, 0, 2), 20);
        due.is("slot(0, 1, 5)", x.slot(0, 1, 5), 0);
    }

    private static void doneTellsReasons() {
        due.part("promise 8");
        HookHours x = new HookHours();
        x.expect(0, 60);
        x.bid(0, 1, 0, 11, 30);
        x.bid(0, 2, 0, 10, 30);
        due.is("done(61)", x.done(61), 0);
        due.is("slot(0, 0, 6)", x.slot(0, 0, 6), 1);
        due.is("slot(1, 0, 6)", x.slot(1, 0, 6), 2);
        due.is("slot(2, 0, 6)", x.slot(2, 0, 6), 3);
        due.is("slot(0, 0, 0)", x.slot(0, 0, 0), -5);
        due.is("slot(1, 0, 0)", x.slot(1, 0, 0), -5);
        due.is("slot(1, 0, 3), what is left is gone", x.slot(1, 0, 3), 0);
        due.is("firm(0, 1)", x.firm(0, 1), 0);
        due.is("slot(2, 0, 0)", x.slot(2, 0, 0), 0);
        for (int what = 5; what <= 7; what++) {
            due.is("count(" + what + ")", x.count(what), 1);
        }
        due.is("wind(0)", x.wind(0), 61);
        due.is("count(4)", x.count(4), 0);
        due.is("count(13)", x.count(13), 0);
        due.is("firm(0, 4)", x.firm(0, 4), 0);
    }

    private static void doneAwardsByTheExpectedWind() {
        due.part("promise 8");
        HookHours x = new HookHours();
        x.bid(0, 2, 0, 60, 30);
        x.bid(1, 2, 0, 50, 20);
        due.is("done(0), though the wind would bear it", x.done(0), 1);
        due.is("slot(2, 0, 0)", x.slot(2, 0, 0), 1);
        due.is("slot(2, 0, 2)", x.slot(2, 0, 2), 0);
        x.bid(0, 2, 1, 51, 30);
        due.is("done(19)", x.done(19), 0);
        due.is("slot(2, 1, 6)", x.slot(2, 1, 6), 2);
        x.expect(2, 10);
        x.bid(0, 2, 2, 60, 30);
        due.is("done(10)", x.done(10), 1);
        due.is("count(13)", x.count(13), 110);
    }

    private static void doneRefundsTheOneThatHasIt() {
        due.part("promise 8");
        HookHours x = new HookHours();
        x.bid(0, 1, 0, 30, 50);
        x.bid(1, 1, 0, 30, 35);
        x.award(1, 0);
        x.trade(1, 0, 2, 40, 10);
        due.is("done(31)", x.done(31), 0);
        due.is("slot(1, 0, 6)", x.slot(1, 0, 6), 3);
        due.is("firm(2, 0)", x.firm(2, 0), 125);
        due.is("firm(2, 5)", x.firm(2, 5), -35);
        due.is("firm(2, 6)", x.firm(2, 6), -10);
        due.is("firm(0, 0)", x.firm(0, 0), 75);
        due.is("firm(0, 5)", x.firm(0, 5), 35);
        due.is("count(8)", x.count(8), 0);
        due.is("count(9)", x.count(9), 35);
        due.is("count(10)", x.count(10), 600);
        due.is("count(11)", x.count(11), 600);
        due.is("slot(1, 0, 0)", x.slot(1, 0, 0), 2);
        due.is("slot(1, 0, 2)", x.slot(1, 0, 2), 35);
    }

    private static void doneRefuses() {
        due.part("promise 8");
        HookHours x = new HookHours();
        due.is("done(-1)", x.done(-1), -2);
        due.is("done(100)", x.done(100), -2);
        due.is("done(low)", x.done(LOW), -2);
        due.is("done(high)", x.done(HIGH), -2);
        due.is("count(14)", x.count(14), 0);
        for (int hour = 0; hour < 16; hour++) {
            due.is("count(1)", x.count(1), hour);
            due.is("done(99)", x.done(99), 0);
        }
        due.is("count(1)", x.count(1), 16);
        due.is("done(0)", x.done(0), -4);
        due.is("done(100)", x.done(100), -2);
        due.is("count(5)", x.count(5), 48);
    }

    private static void nextDayBeginsEmpty() {
        due.part("promise 9");
        HookHours x = new HookHours();
        x.expect(3, 33);
        x.bid(0, 0, 0, 10, 30);
        x.bid(1, 0, 0, 10, 20);
        x.bid(2, 2, 15, 60, 20);
        x.bid(3, 1, 4, 10, 30);
        x.bid(4, 1, 4, 10, 20);
        Steps.endHours(x, 4, 5);
        x.done(99);
        Steps.endHours(x, 11, 5);
        due.is("nextDay()", x.nextDay(), 1);
        due.is("count(0)", x.count(0), 1);
        due.is("count(1)", x.count(1), 0);
        due.is("count(2)", x.count(2), 0);
        due.is("count(3)", x.count(3), 0);
        int[] slot = {-5, 0, 0, 0, 0, 0, -5};
        for (int hour = 0; hour < 16; hour++) {
            due.is("wind(" + hour + ")", x.wind(hour), 20);
            for (int what = 0; what <= 6; what++) {
                due.is("slot(0, " + hour + ", " + what + ")", x.slot(0, hour, what), slot[what]);
                due.is("slot(1, " + hour + ", " + what + ")", x.slot(1, hour, what), slot[what]);
            }
        }
        due.is("count(4) goes on", x.count(4), 1);
        due.is("count(5) goes on", x.count(5), 45);
        due.is("count(6) goes on", x.count(6), 1);
        due.is("count(7) goes on", x.count(7), 1);
        due.is("count(8) goes on", x.count(8), 20);
        due.is("count(9) goes on", x.count(9), 20);
        due.is("firm(0, 0) goes on", x.firm(0, 0), 80);
        due.is("firm(0, 4) goes on", x.firm(0, 4), 1);
        due.is("heaviest(2, 3)", x.heaviest(2, 3), 50);
        due.is("bid(0, 0, 0, 1, 80)", x.bid(0, 0, 0, 1, 80), 1);
        due.is("done(0)", x.done(0), 1);
        due.is("count(14)", x.count(14), 4);
    }

    private static void nextDayRefuses() {
        due.part("promise 9");
        HookHours x = new HookHours();
        due.is("nextDay()", x.nextDay(), -4);
        Steps.endHours(x, 15, 0);
        due.is("nextDay()", x.nextDay(), -4);
        due.is("count(0)", x.count(0), 0);
        x.done(0);
        due.is("nextDay()", x.nextDay(), 1);
        due.is("nextDay()", x.nextDay(), -4);
    }

    /** No run of 512 calls gets so far, but the program holds this beyond them too. */
    private static void nextDayEnds() {
        due.part("promise 9");
        HookHours x = new HookHours();
        Steps.write(x, "n,d0,d0,d0,d0,d0,d0,d0,d0,d0,d0,d0,d0,d0,d0,d0,d0");
        Steps.endHours(x, 16, 0);
        for (int day = 1; day <= 999; day++) {
            due.is("perform()", x.perform(), 17);
        }
        due.is("count(0)", x.count(0), 999);
        due.is("nextDay()", x.nextDay(), -3);
        due.is("perform()", x.perform(), -4);
        due.is("stopped(1)", x.stopped(1), -3);
        due.is("count(0)", x.count(0), 999);
    }
}
