import java.util.List;
import java.util.function.ToIntFunction;

/** The sentences of "Terms" on the history of at most 4 states, the one snapshot, and what a state is. */
final class StatesTest {
    private static final int NONE = -5;
    private static final Due due = new Due();

    public static void main(String[] args) {
        emptyAtFirst();
        atMostFourStates();
        undoneInParts();
        eachActIsOneState();
        undoBringsBackEachAct();
        whatIsNoAct();
        aStateHoldsBidsWhole();
        aStateHoldsEachFirm();
        aStateHoldsEachHalfHour();
        aStateHoldsAllCounts();
        whatIsNoPartOfAState();
        snapshotIsEmptyAtFirst();
        snapshotInPlaceOfTheOther();
        snapshotStays();
        snapshotOfAFullHouse();
        restoreIsAnAct();
        undoOverTheEndOfADay();
        due.end();
    }

    private static void emptyAtFirst() {
        due.part("the history is empty at first");
        HookHours x = new HookHours();
        due.is("count(14)", x.count(14), 0);
        due.is("undo()", x.undo(), NONE);
        due.is("undo() again", x.undo(), NONE);
        due.is("count(14)", x.count(14), 0);
        x.fund(0, 1);
        due.is("count(14)", x.count(14), 1);
        due.is("undo()", x.undo(), 0);
        due.is("undo(), empty again", x.undo(), NONE);
        due.is("firm(0, 0)", x.firm(0, 0), 100);
    }

    private static void atMostFourStates() {
        due.part("a history of at most 4 states: the oldest one is dropped");
        for (int acts = 0; acts <= 12; acts++) {
            HookHours x = new HookHours();
            for (int i = 1; i <= acts; i++) {
                x.expect(0, i);
                due.is("count(14)", x.count(14), Math.min(i, 4));
            }
            int left = Math.min(acts, 4);
            for (int wind = acts - 1; left > 0; wind--) {
                left--;
                due.is("undo() of " + acts, x.undo(), left);
                due.is("wind(0)", x.wind(0), wind == 0 ? 20 : wind);
            }
            due.is("undo() of none left", x.undo(), NONE);
            due.is("wind(0)", x.wind(0), acts <= 4 ? 20 : acts - 4);
        }
    }

    private static void undoneInParts() {
        due.part("undo() removes the latest one");
        HookHours x = new HookHours();
        for (int i = 1; i <= 4; i++) {
            x.expect(0, i);
        }
        due.is("undo()", x.undo(), 3);
        due.is("undo()", x.undo(), 2);
        x.expect(0, 50);
        due.is("count(14)", x.count(14), 3);
        x.expect(0, 51);
        x.expect(0, 52);
        due.is("count(14)", x.count(14), 4);
        int[] winds = {51, 50, 2, 1};
        for (int i = 0; i < 4; i++) {
            due.is("undo()", x.undo(), 3 - i);
            due.is("wind(0)", x.wind(0), winds[i]);
        }
        due.is("undo(), the first one was dropped", x.undo(), NONE);
        due.is("wind(0)", x.wind(0), 1);
    }

    /** An act of each kind, and what it answers in the state that ahead() leads to. */
    private record Act(String name, int want, ToIntFunction<HookHours> call) {
    }

    private static final List<Act> ACTS = List.of(new Act("expect(3, 0)", 20, x -> x.expect(3, 0)),
        new Act("fund(5, 1)", 101, x -> x.fund(5, 1)), new Act("bid(5, 2, 15, 60, 1)", 1, x -> x.bid(5, 2, 15, 60, 1)),
        new Act("withdraw(0, 0, 1)", 3, x -> x.withdraw(0, 0, 1)), new Act("award(0, 1)", 0, x -> x.award(0, 1)),
        new Act("trade(1, 1, 2, 1, 0)", 100, x -> x.trade(1, 1, 2, 1, 0)), new Act("done(0)", 3, x -> x.done(0)),
        new Act("done(99)", 0, x -> x.done(99)), new Act("perform()", 2, HookHours::perform),
        new Act("restore()", 0, HookHours::restore));

    /** Three acts, so that one more drops no state. */
    private static void ahead(HookHours x) {
        x.keep();
        Steps.performed(x, "b0c0h1w5=3,b0c1h1w5=3,d0");
        x.award(1, 1);
        x.bid(0, 2, 1, 5, 3);
        Steps.write(x, "d5,e9:9");
    }

    private static void eachActIsOneState() {
        due.part("each call of an act records one state");
        for (Act act : ACTS) {
            HookHours x = new HookHours();
            ahead(x);
            due.is("count(14) ahead of " + act.name, x.count(14), 3);
            due.is(act.name, act.call.applyAsInt(x), act.want);
            due.is("count(14) after " + act.name, x.count(14), 4);
            HookHours y = new HookHours();
            ahead(y);
            y.fund(3, 1);
            due.is("count(14) ahead of " + act.name, y.count(14), 4);
            due.is(act.name, act.call.applyAsInt(y), act.want);
            due.is("count(14) after " + act.name + " with a full history", y.count(14), 4);
            for (int left = 3; left >= 0; left--) {
                due.is("undo() after " + act.name, y.undo(), left);
            }
            due.is("undo() after " + act.name, y.undo(), NONE);
            due.is("count(1) where the oldest one left", y.count(1), 1);
        }
    }

    private static void undoBringsBackEachAct() {
        due.part("undo() restores the state that was before each act");
        String before = Whole.of(StatesTest::ahead);
        for (Act act : ACTS) {
            String after = Whole.of(x -> {
                ahead(x);
                act.call.applyAsInt(x);
            });
            due.holds(act.name + " changes something", !after.equals(before));
            String undone = Whole.of(x -> {
                ahead(x);
                act.call.applyAsInt(x);
                x.undo();
            });
            due.same("undo() of " + act.name, undone, before);
        }
    }

    private static void whatIsNoAct() {
        due.part("what is no act records nothing");
        HookHours x = new HookHours();
        ahead(x);
        x.undo();
        int left = x.count(14);
        x.type('d');
        x.clearText();
        x.keep();
        x.stopped(0);
        x.firm(0, 0);
        x.slot(0, 0, 0);
        x.wouldCost(0, 0, 2, 5, 5);
        x.heaviest(0, 0);
        x.wind(0);
        x.cheapest(0, 5);
        due.is("count(14)", x.count(14), left);
        due.is("undo(), which is none either", x.undo(), left - 1);
        due.is("count(14)", x.count(14), left - 1);
    }

    private static void aStateHoldsBidsWhole() {
        due.part("a state holds the bids with firm, weight and coins");
        for (int firm = 0; firm < 6; firm++) {
            HookHours x = new HookHours();
            x.bid(firm, 2, 15, 17 + firm, 30);
            x.bid((firm + 1) % 6, 2, 15, 9, 12);
            x.keep();
            x.withdraw(firm, 2, 15);
            x.bid(firm, 2, 15, 50, 11);
            x.undo();
            x.undo();
            due.is("award(2, 15) after undo()", x.award(2, 15), firm);
            due.is("slot(2, 15, 1)", x.slot(2, 15, 1), 17 + firm);
            due.is("slot(2, 15, 2)", x.slot(2, 15, 2), 12);
            Steps.endHours(x, 16, 0);
            x.nextDay();
            x.bid(firm, 2, 15, 3, 4);
            due.is("restore()", x.restore(), 2);
            x.expect(15, 53 - firm);
            due.is("award(2, 15) after restore()", x.award(2, 15), firm);
            due.is("slot(2, 15, 1)", x.slot(2, 15, 1), 17 + firm);
        }
    }

    private static void aStateHoldsEachFirm() {
        due.part("a state holds what each firm has and had");
        for (int firm = 0; firm < 6; firm++) {
            int other = (firm + 1) % 6;
            HookHours x = new HookHours();
            x.bid(firm, 0, 0, 5, 30);
            x.bid(other, 0, 0, 5, 20);
            x.award(0, 0);
            x.bid(firm, 1, 0, 5, 30);
            x.award(1, 0);
            x.trade(1, 0, other, 5, 7);
            x.done(0);
            x.keep();
            int[] want = {87, 0, 0, 0, 1, 20, 7};
            x.bid(firm, 2, 1, 5, 9);
            x.award(2, 1);
            x.trade(2, 1, other, 5, 50);
            x.restore();
            for (int what = 0; what <= 6; what++) {
                due.is("firm(" + firm + ", " + what + ") after restore()", x.firm(firm, what), want[what]);
            }
            x.bid(firm, 0, 1, 5, 10);
            x.bid(other, 0, 1, 5, 10);
            x.done(0);
            x.undo();
            x.undo();
            x.undo();
            for (int what = 0; what <= 6; what++) {
                due.is("firm(" + firm + ", " + what + ") after undo()", x.firm(firm, what), want[what]);
            }
        }
    }

    private static void aStateHoldsEachHalfHour() {
        due.part("a state holds each half hour of each crane");
        for (int hour = 0; hour < 16; hour++) {
            for (int crane = 0; crane < 3; crane++) {
                HookHours x = new HookHours();
                x.expect(hour, 31);
                x.bid(1, crane, hour, 19, 8);
                x.bid(2, crane, hour, 19, 6);
                Steps.endHours(x, hour, 5);
                x.done(52);
                x.keep();
                Steps.endHours(x, 15 - hour, 9);
                x.nextDay();
                x.expect(hour, 77);
                x.restore();
                int[] want = {1, 19, 6, 0, 0, 1, 3};
                for (int what = 0; what <= 6; what++) {
                    due.is("slot(" + crane + ", " + hour + ", " + what + ")", x.slot(crane, hour, what), want[what]);
                }
                due.is("wind(" + hour + ")", x.wind(hour), 52);
                due.is("heaviest(2, " + hour + ")", x.heaviest(2, hour), 39);
                due.is("count(1)", x.count(1), hour + 1);
                due.is("count(9)", x.count(9), 6);
                due.is("count(7)", x.count(7), 1);
                due.is("undo() of restore()", x.undo(), 3);
                due.is("wind(" + hour + ")", x.wind(hour), 77);
                due.is("count(0)", x.count(0), 1);
            }
        }
    }

    private static void aStateHoldsAllCounts() {
        due.part("a state holds what all came to so far");
        HookHours x = new HookHours();
        Steps.performed(x, "e0:60,b0c0h0w11=9,b1c1h0w10=9,b2c1h0w10=8,d61,b3c2h1w5=9,b4c2h1w5=7,d0");
        x.bid(5, 2, 2, 5, 5);
        x.award(2, 2);
        x.trade(2, 2, 0, 7, 6);
        x.bid(1, 1, 15, 5, 5);
        x.keep();
        int[] counts = {0, 2, 1, 1, 1, 3, 1, 1, 7, 8, 593, 600, 1, 5, 4, 70};
        counts(x, counts, "of the state");
        due.is("done(5)", x.done(5), 1);
        x.fund(0, 5);
        due.is("count(10), of what came in the yard has a part", x.count(10), 598);
        due.is("count(11), what came into purses", x.count(11), 605);
        due.is("award(1, 15)", x.award(1, 15), 1);
        due.is("trade(1, 15, 0, 5, 5)", x.trade(1, 15, 0, 5, 5), 105);
        for (int left = 3; left >= 0; left--) {
            due.is("undo()", x.undo(), left);
        }
        counts[14] = 0;
        counts(x, counts, "after undo()");
        Steps.endHours(x, 14, 66);
        x.nextDay();
        due.is("restore()", x.restore(), 1);
        counts[14] = 4;
        counts(x, counts, "after restore()");
    }

    private static void counts(HookHours x, int[] want, String when) {
        for (int what = 0; what <= 15; what++) {
            due.is("count(" + what + ") " + when, x.count(what), want[what]);
        }
    }

    private static void whatIsNoPartOfAState() {
        due.part("everything but the text, the history, the snapshot and the latest stop");
        HookHours x = new HookHours();
        x.fund(0, 1);
        Steps.performed(x, "d0,n");
        x.fund(0, 2);
        x.keep();
        x.fund(0, 3);
        Steps.write(x, "d7,d8,d9");
        due.is("undo() to before the text", x.undo(), 2);
        due.is("undo() to before the snapshot", x.undo(), 1);
        due.is("undo() to before the stop", x.undo(), 0);
        due.is("firm(0, 0)", x.firm(0, 0), 100);
        due.is("count(15), the text stays", x.count(15), 8);
        due.is("stopped(0), the stop stays", x.stopped(0), 1);
        due.is("stopped(1), the stop stays", x.stopped(1), -4);
        due.is("restore(), the snapshot stays", x.restore(), 0);
        due.is("firm(0, 0)", x.firm(0, 0), 103);
        due.is("count(14), restore() leaves the history but for one more", x.count(14), 1);
        due.is("count(15), the text stays", x.count(15), 8);
        due.is("stopped(0), the stop stays", x.stopped(0), 1);
        due.is("perform()", x.perform(), 3);
        due.is("wind(2)", x.wind(2), 9);
        due.is("undo()", x.undo(), 1);
        due.is("clearText()", x.clearText(), 8);
        due.is("undo()", x.undo(), 0);
        due.is("count(15), undo() brings no text back", x.count(15), 0);
        due.is("perform()", x.perform(), -100);
    }

    private static void snapshotIsEmptyAtFirst() {
        due.part("one snapshot, empty at first");
        HookHours x = new HookHours();
        due.is("restore()", x.restore(), NONE);
        x.bid(0, 0, 0, 5, 5);
        due.is("restore() after an act", x.restore(), NONE);
        due.is("count(2)", x.count(2), 1);
        due.is("count(14)", x.count(14), 1);
        x.undo();
        due.is("restore() after undo()", x.restore(), NONE);
        due.is("keep() of a new object's state", x.keep(), 0);
        due.is("restore()", x.restore(), 0);
    }

    private static void snapshotInPlaceOfTheOther() {
        due.part("a snapshot in place of the one that was");
        HookHours x = new HookHours();
        for (int bids = 0; bids <= 10; bids++) {
            due.is("keep()", x.keep(), bids);
            x.bid(0, 0, bids, 5, 1);
            due.is("restore(), the latest snapshot", x.restore(), bids);
            due.is("restore() again", x.restore(), bids);
            x.bid(0, 0, bids, 5, 1);
        }
        due.is("undo() to before the snapshot", x.undo(), 3);
        x.undo();
        x.undo();
        x.undo();
        due.is("count(2)", x.count(2), 10);
        due.is("keep()", x.keep(), 10);
        x.fund(1, 1);
        due.is("restore()", x.restore(), 10);
        due.is("firm(1, 0)", x.firm(1, 0), 100);
    }

    private static void snapshotStays() {
        due.part("the snapshot stays as it was taken");
        HookHours x = new HookHours();
        x.bid(1, 0, 0, 5, 9);
        x.bid(2, 0, 0, 5, 6);
        x.keep();
        for (int round = 0; round < 5; round++) {
            due.is("award(0, 0)", x.award(0, 0), 1);
            due.is("trade(0, 0, 3, 5, 4)", x.trade(0, 0, 3, 5, 4), 98);
            due.is("done(66)", x.done(66), 0);
            due.is("restore()", x.restore(), 2);
            due.is("firm(1, 0)", x.firm(1, 0), 100);
            due.is("firm(3, 0)", x.firm(3, 0), 100);
            due.is("slot(0, 0, 0)", x.slot(0, 0, 0), NONE);
            due.is("slot(0, 0, 4)", x.slot(0, 0, 4), 9);
            due.is("count(1)", x.count(1), 0);
            due.is("count(8)", x.count(8), 0);
            due.is("count(9)", x.count(9), 0);
            due.is("count(12)", x.count(12), 0);
            due.is("count(14)", x.count(14), 4);
        }
    }

    private static void snapshotOfAFullHouse() {
        due.part("keep() and restore() tell how many bids there are");
        HookHours x = new HookHours();
        Steps.fillBids(x);
        due.is("keep()", x.keep(), 60);
        Steps.endHours(x, 16, 20);
        due.is("count(2)", x.count(2), 0);
        due.is("restore()", x.restore(), 60);
        due.is("count(2)", x.count(2), 60);
        due.is("count(1)", x.count(1), 0);
        due.is("bid(0, 0, 0, 1, 1)", x.bid(0, 0, 0, 1, 1), -3);
        due.is("undo()", x.undo(), 3);
        due.is("keep()", x.keep(), 0);
        due.is("restore()", x.restore(), 0);
        due.is("count(1)", x.count(1), 16);
    }

    private static void restoreIsAnAct() {
        due.part("restore() is an act");
        HookHours x = new HookHours();
        x.keep();
        for (int i = 1; i <= 6; i++) {
            due.is("restore() of what stands already", x.restore(), 0);
            due.is("count(14)", x.count(14), Math.min(i, 4));
        }
        x.fund(0, 5);
        due.is("restore()", x.restore(), 0);
        due.is("firm(0, 0)", x.firm(0, 0), 100);
        due.is("undo() of restore()", x.undo(), 3);
        due.is("firm(0, 0)", x.firm(0, 0), 105);
        due.is("undo() of fund()", x.undo(), 2);
        due.is("firm(0, 0)", x.firm(0, 0), 100);
    }

    private static void undoOverTheEndOfADay() {
        due.part("undo() over the end of a day");
        HookHours x = new HookHours();
        Steps.endHours(x, 15, 7);
        x.expect(15, 33);
        x.bid(4, 2, 15, 30, 9);
        x.done(41);
        x.nextDay();
        due.is("count(0)", x.count(0), 1);
        due.is("undo() of nextDay()", x.undo(), 3);
        due.is("count(0)", x.count(0), 0);
        due.is("count(1)", x.count(1), 16);
        due.is("wind(15)", x.wind(15), 41);
        due.is("slot(2, 15, 6)", x.slot(2, 15, 6), 3);
        due.is("wind(3)", x.wind(3), 7);
        due.is("undo() of done(41)", x.undo(), 2);
        due.is("count(1)", x.count(1), 15);
        due.is("wind(15)", x.wind(15), 33);
        due.is("slot(2, 15, 4)", x.slot(2, 15, 4), 9);
        due.is("slot(2, 15, 6)", x.slot(2, 15, 6), NONE);
        due.is("done(40)", x.done(40), 1);
        due.is("nextDay()", x.nextDay(), 1);
    }
}
