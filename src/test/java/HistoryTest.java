/** Promises 14 to 16: undo and the snapshot. */
final class HistoryTest {
    private static final Due due = new Due();

    public static void main(String[] args) {
        undoTells();
        undoDropsTheOldest();
        undoRestoresEveryAct();
        onlyActsAreRecorded();
        keepTells();
        restoreTells();
        restoreIsAnAct();
        due.end();
    }

    private static void undoTells() {
        due.part("promise 14");
        HookHours x = new HookHours();
        due.is("undo()", x.undo(), -5);
        x.fund(0, 1);
        x.fund(0, 2);
        due.is("undo()", x.undo(), 1);
        due.is("firm(0, 0)", x.firm(0, 0), 101);
        due.is("undo()", x.undo(), 0);
        due.is("firm(0, 0)", x.firm(0, 0), 100);
        due.is("count(11)", x.count(11), 600);
        due.is("undo()", x.undo(), -5);
        due.is("firm(0, 0)", x.firm(0, 0), 100);
    }

    private static void undoDropsTheOldest() {
        due.part("promise 14");
        HookHours x = new HookHours();
        for (int i = 1; i <= 11; i++) {
            x.fund(0, i);
            due.is("count(14)", x.count(14), Math.min(i, 4));
        }
        int purse = 166;
        for (int i = 11; i >= 8; i--) {
            due.is("undo()", x.undo(), i - 8);
            purse -= i;
            due.is("firm(0, 0)", x.firm(0, 0), purse);
        }
        due.is("undo()", x.undo(), -5);
        due.is("firm(0, 0)", x.firm(0, 0), 128);
        x.fund(1, 5);
        due.is("undo()", x.undo(), 0);
        due.is("firm(1, 0)", x.firm(1, 0), 100);
        due.is("firm(0, 0)", x.firm(0, 0), 128);
    }

    private static String first = "";

    /** Another act goes ahead of each one, so that no state stands where an earlier one left it. */
    private static void begin(HookHours x) {
        x.fund(5, 1);
        first = Steps.told(x);
    }

    private static void taken(HookHours x, String act) {
        due.holds(act + " changes something", !Steps.told(x).equals(first));
        int left = x.count(14) - 1;
        due.is("undo() of " + act, x.undo(), left);
        due.holds(act + " is taken back", Steps.told(x).equals(first));
    }

    private static void undoRestoresEveryAct() {
        due.part("promise 14");
        HookHours x = new HookHours();
        x.bid(0, 0, 0, 5, 30);
        x.bid(1, 0, 0, 5, 20);
        x.bid(1, 1, 0, 5, 20);
        x.award(0, 0);
        begin(x);
        x.expect(2, 5);
        taken(x, "expect");
        begin(x);
        x.fund(2, 5);
        taken(x, "fund");
        begin(x);
        x.bid(2, 2, 2, 2, 2);
        taken(x, "bid");
        begin(x);
        x.withdraw(1, 1, 0);
        taken(x, "withdraw");
        begin(x);
        x.award(1, 0);
        taken(x, "award");
        begin(x);
        x.trade(0, 0, 3, 20, 40);
        taken(x, "trade");
        begin(x);
        x.done(66);
        due.is("count(9), a refund", x.count(9), 20);
        taken(x, "done");
        begin(x);
        x.done(0);
        taken(x, "done");
        begin(x);
        Steps.performed(x, "d66,b0c0h1w1=1");
        taken(x, "perform");
        x.keep();
        x.withdraw(1, 1, 0);
        begin(x);
        x.restore();
        taken(x, "restore");
        Steps.endHours(x, 16, 70);
        begin(x);
        x.nextDay();
        taken(x, "nextDay");
    }

    private static void onlyActsAreRecorded() {
        due.part("promise 14");
        HookHours x = new HookHours();
        x.type('n');
        x.clearText();
        x.keep();
        x.expect(0, 20);
        x.award(0, 0);
        x.fund(0, 0);
        x.withdraw(0, 0, 0);
        x.nextDay();
        x.done(100);
        x.perform();
        x.stopped(0);
        x.wouldCost(0, 0, 0, 1, 1);
        x.cheapest(0, 1);
        Steps.told(x);
        due.is("count(14)", x.count(14), 0);
        due.is("undo()", x.undo(), -5);
        x.done(5);
        due.is("count(14)", x.count(14), 1);
    }

    private static void keepTells() {
        due.part("promise 15");
        HookHours x = new HookHours();
        due.is("keep()", x.keep(), 0);
        x.bid(0, 0, 0, 1, 1);
        x.bid(0, 1, 0, 1, 1);
        due.is("keep()", x.keep(), 2);
        x.withdraw(0, 0, 0);
        due.is("count(2)", x.count(2), 1);
        due.is("restore(), the latest one", x.restore(), 2);
        due.is("count(14)", x.count(14), 4);
        due.is("keep()", x.keep(), 2);
        due.is("count(14)", x.count(14), 4);
        x.undo();
        due.is("keep()", x.keep(), 1);
        due.is("restore()", x.restore(), 1);
    }

    private static void restoreTells() {
        due.part("promise 16");
        HookHours x = new HookHours();
        due.is("restore()", x.restore(), -5);
        due.is("count(14)", x.count(14), 0);
        x.expect(1, 31);
        x.bid(0, 0, 0, 5, 30);
        x.bid(1, 0, 0, 5, 20);
        x.bid(1, 1, 3, 5, 20);
        x.award(0, 0);
        x.trade(0, 0, 2, 6, 7);
        x.done(65);
        String kept = Steps.told(x);
        due.is("keep()", x.keep(), 1);
        Steps.endHours(x, 15, 3);
        x.nextDay();
        x.fund(4, 44);
        due.is("restore()", x.restore(), 1);
        due.holds("all is as it was", Steps.told(x).equals(kept));
        x.fund(0, 1);
        x.done(0);
        due.is("restore() again, it stays", x.restore(), 1);
        due.holds("all is as it was", Steps.told(x).equals(kept));
    }

    private static void restoreIsAnAct() {
        due.part("promise 16");
        HookHours x = new HookHours();
        x.keep();
        due.is("restore() of the same", x.restore(), 0);
        due.is("count(14)", x.count(14), 1);
        x.fund(0, 9);
        due.is("restore()", x.restore(), 0);
        due.is("count(14)", x.count(14), 3);
        due.is("firm(0, 0)", x.firm(0, 0), 100);
        due.is("undo()", x.undo(), 2);
        due.is("firm(0, 0)", x.firm(0, 0), 109);
        due.is("undo()", x.undo(), 1);
        due.is("firm(0, 0)", x.firm(0, 0), 100);
        due.is("restore(), undo() leaves the snapshot", x.restore(), 0);
    }
}
