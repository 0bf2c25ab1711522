/** Promises 1 to 5: a new object, winds, purses, bids. */
final class BidsTest {
    private static final int LOW = Integer.MIN_VALUE;
    private static final int HIGH = Integer.MAX_VALUE;
    private static final Due due = new Due();

    public static void main(String[] args) {
        newObject();
        newObjectsAreApart();
        expectTells();
        expectRefuses();
        fundTells();
        fundRefuses();
        bidTells();
        bidRefusesWrongValues();
        bidRefusesWhatIsNotPossible();
        bidChecksInOrder();
        withdrawTells();
        withdrawRefuses();
        due.end();
    }

    private static void newObject() {
        due.part("promise 1");
        HookHours x = new HookHours();
        for (int firm = 0; firm < 6; firm++) {
            for (int what = 0; what <= 6; what++) {
                due.is("firm(" + firm + ", " + what + ")", x.firm(firm, what), what == 0 ? 100 : 0);
            }
        }
        int[] slot = {-5, 0, 0, 0, 0, 0, -5};
        for (int hour = 0; hour < 16; hour++) {
            due.is("wind(" + hour + ")", x.wind(hour), 20);
            for (int crane = 0; crane < 3; crane++) {
                for (int what = 0; what <= 6; what++) {
                    due.is("slot(.., " + what + ")", x.slot(crane, hour, what), slot[what]);
                }
            }
        }
        for (int what = 0; what <= 15; what++) {
            due.is("count(" + what + ")", x.count(what), what == 10 || what == 11 ? 600 : 0);
        }
        due.is("stopped(0)", x.stopped(0), -5);
        due.is("undo()", x.undo(), -5);
        due.is("restore()", x.restore(), -5);
        due.is("perform()", x.perform(), -100);
    }

    private static void newObjectsAreApart() {
        due.part("promise 1");
        HookHours one = new HookHours();
        one.expect(3, 30);
        one.fund(0, 5);
        one.bid(1, 1, 1, 1, 1);
        one.type('n');
        one.keep();
        HookHours other = new HookHours();
        due.is("wind(3) of another", other.wind(3), 20);
        due.is("firm(0, 0) of another", other.firm(0, 0), 100);
        due.is("count(2) of another", other.count(2), 0);
        due.is("count(14) of another", other.count(14), 0);
        due.is("count(15) of another", other.count(15), 0);
        due.is("restore() of another", other.restore(), -5);
    }

    private static void expectTells() {
        due.part("promise 2");
        HookHours x = new HookHours();
        due.is("expect(0, 0)", x.expect(0, 0), 20);
        due.is("expect(0, 99)", x.expect(0, 99), 0);
        due.is("expect(0, 5)", x.expect(0, 5), 99);
        due.is("expect(15, 40)", x.expect(15, 40), 20);
        due.is("wind(0)", x.wind(0), 5);
        due.is("wind(15)", x.wind(15), 40);
        due.is("wind(1)", x.wind(1), 20);
        due.is("count(14)", x.count(14), 4);
    }

    private static void expectRefuses() {
        due.part("promise 2");
        HookHours x = new HookHours();
        due.is("expect(-1, 5)", x.expect(-1, 5), -1);
        due.is("expect(16, 5)", x.expect(16, 5), -1);
        due.is("expect(low, low)", x.expect(LOW, LOW), -1);
        due.is("expect(high, high)", x.expect(HIGH, HIGH), -1);
        due.is("expect(0, -1)", x.expect(0, -1), -2);
        due.is("expect(0, 100)", x.expect(0, 100), -2);
        due.is("expect(0, 20)", x.expect(0, 20), -5);
        due.is("count(14)", x.count(14), 0);
        x.done(30);
        due.is("expect(0, 20) when it is done", x.expect(0, 20), -4);
        due.is("expect(0, 5) when it is done", x.expect(0, 5), -4);
        due.is("expect(0, 100) when it is done", x.expect(0, 100), -2);
        due.is("expect(1, 30)", x.expect(1, 30), 20);
        due.is("count(14)", x.count(14), 2);
    }

    private static void fundTells() {
        due.part("promise 3");
        HookHours x = new HookHours();
        due.is("fund(0, 1)", x.fund(0, 1), 101);
        due.is("fund(5, 999)", x.fund(5, 999), 1099);
        due.is("firm(0, 0)", x.firm(0, 0), 101);
        due.is("firm(5, 0)", x.firm(5, 0), 1099);
        due.is("firm(1, 0)", x.firm(1, 0), 100);
        due.is("count(10)", x.count(10), 1600);
        due.is("count(11)", x.count(11), 1600);
        due.is("count(14)", x.count(14), 2);
    }

    private static void fundRefuses() {
        due.part("promise 3");
        HookHours x = new HookHours();
        due.is("fund(-1, 0)", x.fund(-1, 0), -1);
        due.is("fund(6, 1)", x.fund(6, 1), -1);
        due.is("fund(high, 1)", x.fund(HIGH, 1), -1);
        due.is("fund(0, 0)", x.fund(0, 0), -2);
        due.is("fund(0, 1000)", x.fund(0, 1000), -2);
        due.is("fund(0, high)", x.fund(0, HIGH), -2);
        due.is("fund(0, low)", x.fund(0, LOW), -2);
        for (int i = 1; i <= 9; i++) {
            due.is("fund(0, 999)", x.fund(0, 999), 100 + 999 * i);
        }
        due.is("fund(0, 909)", x.fund(0, 909), -3);
        due.is("fund(0, 908)", x.fund(0, 908), 9999);
        due.is("fund(0, 1)", x.fund(0, 1), -3);
        due.is("fund(0, 0)", x.fund(0, 0), -2);
        x.bid(1, 0, 0, 5, 50);
        x.award(0, 0);
        x.trade(0, 0, 2, 5, 60);
        x.bid(0, 0, 1, 5, 50);
        x.award(0, 1);
        due.is("trade(0, 1, 3, 5, 70) brings it above", x.trade(0, 1, 3, 5, 70), 10069);
        due.is("fund(0, 1)", x.fund(0, 1), -3);
        due.is("count(11)", x.count(11), 600 + 9899);
    }

    private static void bidTells() {
        due.part("promise 4");
        HookHours x = new HookHours();
        due.is("bid(0, 2, 15, 60, 100)", x.bid(0, 2, 15, 60, 100), 1);
        due.is("bid(5, 2, 15, 1, 1)", x.bid(5, 2, 15, 1, 1), 2);
        due.is("bid(5, 0, 0, 20, 99)", x.bid(5, 0, 0, 20, 99), 1);
        due.is("bid(1, 1, 0, 40, 7)", x.bid(1, 1, 0, 40, 7), 1);
        due.is("slot(2, 15, 3)", x.slot(2, 15, 3), 2);
        due.is("slot(2, 15, 4)", x.slot(2, 15, 4), 100);
        due.is("firm(5, 0)", x.firm(5, 0), 100);
        due.is("firm(5, 1)", x.firm(5, 1), 100);
        due.is("firm(5, 2)", x.firm(5, 2), 2);
        due.is("count(2)", x.count(2), 4);
        due.is("count(14)", x.count(14), 4);
        x.fund(3, 999);
        due.is("bid(3, 0, 0, 1, 999)", x.bid(3, 0, 0, 1, 999), 2);
    }

    private static void bidRefusesWrongValues() {
        due.part("promise 4");
        HookHours x = new HookHours();
        due.is("bid(-1, 0, 0, 1, 1)", x.bid(-1, 0, 0, 1, 1), -1);
        due.is("bid(6, 0, 0, 1, 1)", x.bid(6, 0, 0, 1, 1), -1);
        due.is("bid(0, -1, 0, 1, 1)", x.bid(0, -1, 0, 1, 1), -1);
        due.is("bid(0, 3, 0, 1, 1)", x.bid(0, 3, 0, 1, 1), -1);
        due.is("bid(0, 0, -1, 1, 1)", x.bid(0, 0, -1, 1, 1), -1);
        due.is("bid(0, 0, 16, 1, 1)", x.bid(0, 0, 16, 1, 1), -1);
        due.is("bid(low, low, low, low, low)", x.bid(LOW, LOW, LOW, LOW, LOW), -1);
        due.is("bid(high, high, high, high, high)", x.bid(HIGH, HIGH, HIGH, HIGH, HIGH), -1);
        due.is("bid(0, 0, 0, 0, 1)", x.bid(0, 0, 0, 0, 1), -2);
        due.is("bid(0, 0, 0, 21, 1)", x.bid(0, 0, 0, 21, 1), -2);
        due.is("bid(0, 1, 0, 41, 1)", x.bid(0, 1, 0, 41, 1), -2);
        due.is("bid(0, 2, 0, 61, 1)", x.bid(0, 2, 0, 61, 1), -2);
        due.is("bid(0, 0, 0, 1, 0)", x.bid(0, 0, 0, 1, 0), -2);
        due.is("bid(0, 0, 0, 1, 1000)", x.bid(0, 0, 0, 1, 1000), -2);
        due.is("bid(0, 0, 0, 1, high)", x.bid(0, 0, 0, 1, HIGH), -2);
        due.is("count(2)", x.count(2), 0);
        due.is("count(14)", x.count(14), 0);
    }

    private static void bidRefusesWhatIsNotPossible() {
        due.part("promise 4");
        HookHours x = new HookHours();
        x.done(0);
        due.is("bid(0, 0, 0, 1, 1) when it is done", x.bid(0, 0, 0, 1, 1), -4);
        due.is("bid(0, 0, 1, 1, 60)", x.bid(0, 0, 1, 1, 60), 1);
        due.is("bid(0, 0, 1, 2, 1) again", x.bid(0, 0, 1, 2, 1), -4);
        due.is("bid(0, 1, 1, 1, 41)", x.bid(0, 1, 1, 1, 41), -6);
        due.is("bid(0, 1, 1, 1, 40)", x.bid(0, 1, 1, 1, 40), 1);
        due.is("bid(0, 2, 1, 1, 1)", x.bid(0, 2, 1, 1, 1), -6);
        due.is("award(0, 1)", x.award(0, 1), 0);
        due.is("bid(1, 0, 1, 1, 1) when it is awarded", x.bid(1, 0, 1, 1, 1), -4);
        due.is("bid(0, 0, 1, 1, 1) when it is awarded", x.bid(0, 0, 1, 1, 1), -4);
        due.is("bid(0, 2, 1, 1, 60), what was held is free", x.bid(0, 2, 1, 1, 60), 1);
    }

    private static void bidChecksInOrder() {
        due.part("promise 4");
        HookHours x = new HookHours();
        Steps.fillBids(x);
        due.is("count(2)", x.count(2), 60);
        due.is("bid(0, 0, 16, 0, 0)", x.bid(0, 0, 16, 0, 0), -1);
        due.is("bid(0, 0, 5, 0, 999)", x.bid(0, 0, 5, 0, 999), -2);
        due.is("bid(0, 0, 5, 1, 999)", x.bid(0, 0, 5, 1, 999), -4);
        due.is("bid(0, 0, 0, 1, 91)", x.bid(0, 0, 0, 1, 91), -6);
        due.is("bid(0, 0, 0, 1, 90)", x.bid(0, 0, 0, 1, 90), -3);
        due.is("withdraw(5, 0, 5)", x.withdraw(5, 0, 5), 1);
        due.is("bid(0, 0, 0, 1, 90)", x.bid(0, 0, 0, 1, 90), 1);
        due.is("bid(5, 0, 5, 1, 1)", x.bid(5, 0, 5, 1, 1), -3);
        due.is("count(2)", x.count(2), 60);
    }

    private static void withdrawTells() {
        due.part("promise 5");
        HookHours x = new HookHours();
        x.bid(2, 1, 7, 30, 44);
        x.bid(3, 1, 7, 30, 55);
        x.bid(2, 0, 7, 20, 11);
        due.is("withdraw(2, 1, 7)", x.withdraw(2, 1, 7), 44);
        due.is("firm(2, 1)", x.firm(2, 1), 11);
        due.is("firm(2, 2)", x.firm(2, 2), 1);
        due.is("firm(2, 0)", x.firm(2, 0), 100);
        due.is("slot(1, 7, 3)", x.slot(1, 7, 3), 1);
        due.is("slot(1, 7, 4)", x.slot(1, 7, 4), 55);
        due.is("count(2)", x.count(2), 2);
        due.is("count(14)", x.count(14), 4);
        due.is("withdraw(2, 1, 7) again", x.withdraw(2, 1, 7), -1);
        due.is("bid(2, 1, 7, 1, 89)", x.bid(2, 1, 7, 1, 89), 2);
    }

    private static void withdrawRefuses() {
        due.part("promise 5");
        HookHours x = new HookHours();
        x.bid(0, 0, 0, 1, 1);
        x.bid(0, 2, 15, 60, 1);
        due.is("withdraw(-1, 0, 0)", x.withdraw(-1, 0, 0), -1);
        due.is("withdraw(6, 0, 0)", x.withdraw(6, 0, 0), -1);
        due.is("withdraw(0, -1, 0)", x.withdraw(0, -1, 0), -1);
        due.is("withdraw(0, 3, 0)", x.withdraw(0, 3, 0), -1);
        due.is("withdraw(0, 0, -1)", x.withdraw(0, 0, -1), -1);
        due.is("withdraw(0, 0, 16)", x.withdraw(0, 0, 16), -1);
        due.is("withdraw(1, -3, 0), which is no other slot", x.withdraw(1, -3, 0), -1);
        due.is("withdraw(high, high, high)", x.withdraw(HIGH, HIGH, HIGH), -1);
        due.is("withdraw(1, 0, 0)", x.withdraw(1, 0, 0), -1);
        due.is("count(14)", x.count(14), 2);
        x.done(0);
        due.is("withdraw(0, 0, 0) when it is done", x.withdraw(0, 0, 0), -1);
        due.is("withdraw(0, 2, 15)", x.withdraw(0, 2, 15), 1);
    }
}
