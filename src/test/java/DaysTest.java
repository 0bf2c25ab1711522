/** The sentences of "Terms" on half hours that are done, their winds and reasons, and on the end of a day. */
final class DaysTest {
    private static final int NOT_POSSIBLE = -4;
    private static final int NONE = -5;
    private static final Due due = new Due();

    public static void main(String[] args) {
        firstDay();
        oneAfterTheOther();
        onlyTheNextOneIsDone();
        eachCraneByItself();
        reasonsAtTheirEdges();
        winsOfAllCranesInOneHalfHour();
        refundOfNothing();
        refundFromTheYard();
        bidsThatAreLeftAreGone();
        expectedWindStays();
        theDayEnds();
        nextDayIsEmpty();
        nextDayKeepsWhatFirmsHave();
        awardsOfTheDayAlone();
        due.end();
    }

    private static void firstDay() {
        due.part("the first day");
        HookHours x = new HookHours();
        due.is("count(0)", x.count(0), 0);
        due.is("count(1), the next one is 0 at first", x.count(1), 0);
        for (int hour = 0; hour < 16; hour++) {
            due.is("wind(" + hour + ") at first", x.wind(hour), 20);
            int[] lifts = {20, 40, 50};
            for (int crane = 0; crane < 3; crane++) {
                due.is("heaviest(" + crane + ", " + hour + ")", x.heaviest(crane, hour), lifts[crane]);
            }
        }
        for (int firm = 0; firm < 6; firm++) {
            due.is("firm(" + firm + ", 0) at first", x.firm(firm, 0), 100);
        }
        due.is("count(11) at first", x.count(11), 600);
    }

    private static void oneAfterTheOther() {
        due.part("half hours are done one after the other");
        HookHours x = new HookHours();
        for (int next = 0; next < 16; next++) {
            due.is("count(1)", x.count(1), next);
            for (int hour = 0; hour < 16; hour++) {
                due.is("slot(0, " + hour + ", 5) at " + next, x.slot(0, hour, 5), hour < next ? 1 : 0);
            }
            due.is("done(" + next + ")", x.done(next), 0);
        }
        HookHours y = new HookHours();
        for (int next = 0; next < 16; next++) {
            for (int hour = 0; hour < 16; hour++) {
                boolean over = hour < next;
                due.is("wind(" + hour + ") at " + next, y.wind(hour), over ? 30 + hour : 20);
            }
            y.done(30 + next);
        }
        HookHours z = new HookHours();
        for (int next = 0; next < 16; next++) {
            for (int hour = 0; hour < 16; hour++) {
                due.is("slot(2, " + hour + ", 6) at " + next, z.slot(2, hour, 6), hour < next ? 1 : NONE);
            }
            z.done(0);
        }
    }

    /** What is open until its half hour is done, for each of them: the last moment, and the first one after it. */
    private static void onlyTheNextOneIsDone() {
        due.part("a half hour that is not done yet");
        for (int hour = 0; hour < 16; hour++) {
            HookHours x = new HookHours();
            Steps.endHours(x, hour, 0);
            due.is("expect(" + hour + ", 30), the next one", x.expect(hour, 30), 20);
            due.is("bid for the next one", x.bid(0, 0, hour, 5, 5), 1);
            due.is("bid for the next one", x.bid(1, 1, hour, 5, 5), 1);
            due.is("withdraw for the next one", x.withdraw(1, 1, hour), 5);
            due.is("award of the next one", x.award(0, hour), 0);
            due.is("trade of the next one", x.trade(0, hour, 1, 5, 5), 105);
            due.is("wouldCost of the next one", x.wouldCost(2, 2, hour, 5, 5), 0);
            due.is("cheapest(1, 40) is the next one", x.cheapest(1, 40), hour);
            due.is("firm(1, 3)", x.firm(1, 3), 1);
            due.is("count(3)", x.count(3), 1);
            x.done(0);
            due.is("expect(" + hour + ", 31), done", x.expect(hour, 31), NOT_POSSIBLE);
            due.is("bid, done", x.bid(2, 1, hour, 5, 5), NOT_POSSIBLE);
            due.is("award, done", x.award(1, hour), NOT_POSSIBLE);
            due.is("trade, done", x.trade(0, hour, 2, 5, 5), NOT_POSSIBLE);
            due.is("wouldCost, done", x.wouldCost(2, 2, hour, 5, 5), NOT_POSSIBLE);
            due.is("cheapest(1, 40) is the one behind it", x.cheapest(1, 40), hour < 15 ? hour + 1 : NONE);
            due.is("firm(1, 3)", x.firm(1, 3), 0);
            due.is("count(3)", x.count(3), 0);
        }
    }

    private static void eachCraneByItself() {
        due.part("for each crane: its lift, or one of the reasons");
        for (int mix = 0; mix < 125; mix++) {
            int[] kinds = {mix % 5, mix / 5 % 5, mix / 25};
            HookHours x = new HookHours();
            x.expect(0, 60);
            for (int crane = 0; crane < 3; crane++) {
                prepare(x, crane, kinds[crane]);
            }
            int lifts = 0;
            int[] reasons = new int[4];
            int[] want = {1, 2, 3, 0, 3};
            for (int crane = 0; crane < 3; crane++) {
                lifts += want[kinds[crane]] == 0 ? 1 : 0;
                reasons[want[kinds[crane]]]++;
            }
            String told = "kinds " + kinds[0] + kinds[1] + kinds[2];
            due.is("done(65) of " + told, x.done(65), lifts);
            for (int crane = 0; crane < 3; crane++) {
                due.is("slot(" + crane + ", 0, 6) of " + told, x.slot(crane, 0, 6), want[kinds[crane]]);
                due.is("firm(" + crane + ", 4) of " + told, x.firm(crane, 4), want[kinds[crane]] == 0 ? 1 : 0);
            }
            for (int reason = 0; reason <= 3; reason++) {
                due.is("count(" + (reason + 4) + ") of " + told, x.count(reason + 4), reasons[reason]);
            }
            due.is("count(13) of " + told, x.count(13), 5 * lifts);
        }
    }

    /** 0 no bid, 1 none that is borne at 60, 2 one that is borne at 60 alone, 3 at 65 too, 4 awarded before, not at 65. */
    private static void prepare(HookHours x, int crane, int kind) {
        int[] weights = {1, 11, 10, 5, 6};
        x.bid(crane, crane, 0, weights[kind], 9);
        if (kind == 0) {
            x.withdraw(crane, crane, 0);
        }
        if (kind == 4) {
            x.award(crane, 0);
        }
    }

    private static int reason(HookHours x, int wind) {
        x.done(wind);
        return x.slot(2, 0, 6);
    }

    private static void reasonsAtTheirEdges() {
        due.part("the reasons at their edges");
        HookHours empty = new HookHours();
        due.is("nobody bid, at the strongest wind", reason(empty, 99), 1);
        HookHours withdrawn = new HookHours();
        withdrawn.bid(0, 2, 0, 51, 5);
        withdrawn.withdraw(0, 2, 0);
        due.is("a bid that is not borne was taken back", reason(withdrawn, 99), 1);
        HookHours other = new HookHours();
        other.bid(0, 2, 1, 51, 5);
        other.bid(0, 1, 0, 5, 5);
        due.is("a bid for another one", reason(other, 99), 1);
        HookHours heavy = new HookHours();
        heavy.bid(0, 2, 0, 51, 5);
        due.is("no bid was borne at 20, one would be at the wind that blows", reason(heavy, 0), 2);
        HookHours light = new HookHours();
        light.bid(0, 2, 0, 50, 5);
        due.is("borne at 20", reason(light, 20), 0);
        HookHours late = new HookHours();
        late.bid(0, 2, 0, 50, 5);
        due.is("borne at 20, not at 21", reason(late, 21), 3);
        HookHours raised = new HookHours();
        raised.bid(0, 2, 0, 50, 5);
        raised.award(2, 0);
        raised.expect(0, 99);
        due.is("awarded before another wind was expected", reason(raised, 20), 0);
        HookHours traded = new HookHours();
        traded.bid(0, 2, 0, 50, 5);
        traded.award(2, 0);
        traded.trade(2, 0, 1, 60, 5);
        due.is("traded for a lift of 60", reason(traded, 10), 0);
        HookHours tooHeavy = new HookHours();
        tooHeavy.bid(0, 2, 0, 50, 5);
        tooHeavy.award(2, 0);
        tooHeavy.trade(2, 0, 1, 60, 5);
        due.is("traded for a lift that the expected wind does not bear", reason(tooHeavy, 11), 3);
    }

    private static void winsOfAllCranesInOneHalfHour() {
        due.part("what was not awarded yet is awarded, for each crane");
        HookHours x = new HookHours();
        for (int crane = 0; crane < 3; crane++) {
            x.bid(5, crane, 0, 10, 33);
            x.bid(4, crane, 0, 10, 32);
        }
        due.is("firm(5, 1)", x.firm(5, 1), 99);
        due.is("done(60)", x.done(60), 3);
        due.is("firm(5, 0)", x.firm(5, 0), 4);
        due.is("firm(5, 4)", x.firm(5, 4), 3);
        due.is("firm(5, 5)", x.firm(5, 5), 96);
        due.is("firm(4, 1)", x.firm(4, 1), 0);
        due.is("count(8)", x.count(8), 96);
        due.is("count(13)", x.count(13), 30);
    }

    private static void refundOfNothing() {
        due.part("the firm gets back the price that was paid");
        HookHours x = new HookHours();
        x.bid(5, 1, 0, 40, 100);
        due.is("done(31)", x.done(31), 0);
        due.is("slot(1, 0, 6)", x.slot(1, 0, 6), 3);
        due.is("slot(1, 0, 2), the only bid costs nothing", x.slot(1, 0, 2), 0);
        due.is("firm(5, 0)", x.firm(5, 0), 100);
        due.is("firm(5, 5)", x.firm(5, 5), 0);
        due.is("count(9)", x.count(9), 0);
        due.is("count(7)", x.count(7), 1);
    }

    private static void refundFromTheYard() {
        due.part("the firm gets back the price from the yard");
        HookHours x = new HookHours();
        for (int crane = 0; crane < 3; crane++) {
            x.bid(5, crane, 0, 10 + crane, 30);
            x.bid(0, crane, 0, 10, 20 + crane);
            x.award(crane, 0);
        }
        due.is("count(8)", x.count(8), 63);
        x.trade(1, 0, 2, 11, 50);
        due.is("done(59)", x.done(59), 2);
        due.is("count(8), but for the price of crane 2", x.count(8), 41);
        due.is("count(9)", x.count(9), 22);
        due.is("firm(5, 0)", x.firm(5, 0), 100 - 63 + 50 + 22);
        due.is("firm(5, 5)", x.firm(5, 5), 41);
        due.is("firm(5, 6)", x.firm(5, 6), 50);
        due.is("firm(2, 5)", x.firm(2, 5), 0);
        due.is("firm(2, 6)", x.firm(2, 6), -50);
        due.is("count(10)", x.count(10), 600 - 41);
    }

    private static void bidsThatAreLeftAreGone() {
        due.part("bids for it that are left are gone");
        HookHours x = new HookHours();
        for (int firm = 0; firm < 6; firm++) {
            x.bid(firm, 2, 0, 51 + firm, 40);
            x.bid(firm, 2, 1, 51 + firm, 30);
            x.bid(firm, 1, 0, 30, firm + 1);
        }
        due.is("done(40)", x.done(40), 1);
        due.is("slot(2, 0, 6)", x.slot(2, 0, 6), 2);
        due.is("slot(2, 0, 3)", x.slot(2, 0, 3), 0);
        due.is("slot(2, 0, 4)", x.slot(2, 0, 4), 0);
        due.is("slot(1, 0, 3)", x.slot(1, 0, 3), 0);
        due.is("slot(2, 1, 3), those for the next one stay", x.slot(2, 1, 3), 6);
        due.is("count(2)", x.count(2), 6);
        for (int firm = 0; firm < 6; firm++) {
            due.is("firm(" + firm + ", 1)", x.firm(firm, 1), 30);
            due.is("firm(" + firm + ", 2)", x.firm(firm, 2), 1);
        }
    }

    private static void expectedWindStays() {
        due.part("promises 20, 21: of what is done");
        HookHours x = new HookHours();
        x.expect(0, 69);
        x.expect(1, 70);
        x.expect(2, 99);
        due.is("heaviest(0, 0) at 69", x.heaviest(0, 0), 1);
        due.is("heaviest(0, 1) at 70", x.heaviest(0, 1), 0);
        due.is("heaviest(2, 2) at 99", x.heaviest(2, 2), 0);
        due.is("wind(0), expected", x.wind(0), 69);
        Steps.endHours(x, 3, 10);
        due.is("heaviest(0, 0), at what was expected", x.heaviest(0, 0), 1);
        due.is("heaviest(2, 1), at what was expected", x.heaviest(2, 1), 0);
        due.is("heaviest(2, 2), at what was expected", x.heaviest(2, 2), 0);
        due.is("wind(0), that which blew", x.wind(0), 10);
        due.is("heaviest(2, 3)", x.heaviest(2, 3), 50);
        due.is("wind(3)", x.wind(3), 20);
    }

    private static void theDayEnds() {
        due.part("when the half hour 15 is done, the day has ended");
        HookHours x = new HookHours();
        for (int hour = 0; hour < 16; hour++) {
            due.is("nextDay() at " + hour, x.nextDay(), NOT_POSSIBLE);
            due.is("done(99) at " + hour, x.done(99), 0);
        }
        due.is("count(1)", x.count(1), 16);
        due.is("done(0)", x.done(0), NOT_POSSIBLE);
        due.is("count(1)", x.count(1), 16);
        due.is("d0", Steps.performed(x, "d0"), NOT_POSSIBLE);
        for (int hour = 0; hour < 16; hour++) {
            due.is("expect(" + hour + ", 5)", x.expect(hour, 5), NOT_POSSIBLE);
            due.is("bid(0, 0, " + hour + ", 5, 5)", x.bid(0, 0, hour, 5, 5), NOT_POSSIBLE);
            due.is("award(0, " + hour + ")", x.award(0, hour), NOT_POSSIBLE);
            due.is("slot(0, " + hour + ", 5)", x.slot(0, hour, 5), 1);
        }
        due.is("fund(0, 5), purses go on", x.fund(0, 5), 105);
        due.is("count(0)", x.count(0), 0);
        due.is("nextDay()", x.nextDay(), 1);
        due.is("nextDay() again", x.nextDay(), NOT_POSSIBLE);
        due.is("done(0)", x.done(0), 0);
        due.is("count(1)", x.count(1), 1);
    }

    /** A day on which each half hour of each crane was bid for, awarded, traded, lifted or stopped. */
    private static HookHours fullDay() {
        HookHours x = new HookHours();
        for (int hour = 0; hour < 16; hour++) {
            x.expect(hour, 30 + hour);
            for (int crane = 0; crane < 3; crane++) {
                x.bid(hour % 6, crane, hour, 10 + hour / 2, 9);
                x.bid((hour + 1) % 6, crane, hour, 10, 5);
            }
            x.award(hour % 3, hour);
            x.done(hour % 4 == 3 ? 70 : 40);
        }
        return x;
    }

    private static void nextDayIsEmpty() {
        due.part("on the next day all half hours are empty anew");
        HookHours x = fullDay();
        HookHours fresh = new HookHours();
        due.is("count(7) of the day", x.count(7), 12);
        due.is("nextDay()", x.nextDay(), 1);
        due.is("count(1)", x.count(1), 0);
        due.is("count(2)", x.count(2), 0);
        due.is("count(3)", x.count(3), 0);
        for (int hour = 0; hour < 16; hour++) {
            due.is("wind(" + hour + ")", x.wind(hour), 20);
            for (int crane = 0; crane < 3; crane++) {
                String slot = "(" + crane + ", " + hour + ")";
                for (int what = 0; what <= 6 && hour % 5 == 0; what++) {
                    due.is("slot" + slot + " " + what, x.slot(crane, hour, what), fresh.slot(crane, hour, what));
                }
                due.is("slot" + slot + " 0", x.slot(crane, hour, 0), NONE);
                due.is("heaviest" + slot, x.heaviest(crane, hour), fresh.heaviest(crane, hour));
            }
        }
        for (int hour = 0; hour < 16; hour++) {
            due.is("bid(0, 2, " + hour + ", 5, 1)", x.bid(0, 2, hour, 5, 1), 1);
        }
    }

    private static void nextDayKeepsWhatFirmsHave() {
        due.part("the accounts go on with the next day");
        HookHours x = fullDay();
        int[] firms = new int[42];
        int[] counts = new int[16];
        for (int i = 0; i < 42; i++) {
            firms[i] = x.firm(i / 7, i % 7);
        }
        for (int what = 0; what < 16; what++) {
            counts[what] = x.count(what);
        }
        due.is("count(4) of the day", counts[4], 36);
        due.is("count(9) of the day", counts[9], 60);
        x.nextDay();
        for (int i = 0; i < 42; i++) {
            due.is("firm(" + i / 7 + ", " + i % 7 + ")", x.firm(i / 7, i % 7), firms[i]);
        }
        for (int what = 2; what < 16; what++) {
            due.is("count(" + what + ")", x.count(what), counts[what]);
        }
    }

    private static void awardsOfTheDayAlone() {
        due.part("awards today that are not done");
        HookHours x = new HookHours();
        x.bid(5, 2, 15, 5, 5);
        x.award(2, 15);
        x.bid(4, 0, 15, 5, 5);
        x.award(0, 15);
        for (int hour = 0; hour < 16; hour++) {
            due.is("firm(5, 3) at " + hour, x.firm(5, 3), 1);
            due.is("firm(3, 3) at " + hour, x.firm(3, 3), 0);
            due.is("count(3) at " + hour, x.count(3), 2);
            x.done(0);
        }
        due.is("firm(5, 3), the day has ended", x.firm(5, 3), 0);
        due.is("count(3), the day has ended", x.count(3), 0);
        due.is("slot(2, 15, 0)", x.slot(2, 15, 0), 5);
        x.nextDay();
        due.is("firm(5, 3) on the next day", x.firm(5, 3), 0);
        due.is("count(3) on the next day", x.count(3), 0);
        due.is("slot(2, 15, 0) on the next day", x.slot(2, 15, 0), NONE);
        x.bid(5, 2, 15, 5, 5);
        x.award(2, 15);
        due.is("firm(5, 3), awarded anew", x.firm(5, 3), 1);
        x.undo();
        x.undo();
        x.undo();
        due.is("firm(5, 3), back on the day before", x.firm(5, 3), 0);
        due.is("slot(2, 15, 0), back on the day before", x.slot(2, 15, 0), 5);
    }
}
