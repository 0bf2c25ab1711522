import java.util.HashSet;
import java.util.Set;

/** The sentences of "Terms" on texts: the 80 characters, entries, numbers with their digits and zeros, the fault. */
final class PlansTest {
    private static final int FULL = -3;
    private static final int NOT_POSSIBLE = -4;
    private static final int NONE = -5;
    private static final Due due = new Due();

    public static void main(String[] args) {
        eightyCharacters();
        emptyText();
        everyNumber();
        everySignAtEveryPlace();
        everyTextThatEndsTooEarly();
        entriesAndCommas();
        numbersAreRead();
        faultsOfLongTexts();
        theMostEntries();
        noneDoesNothing();
        oneAct();
        stopsStay();
        due.end();
    }

    private static void eightyCharacters() {
        due.part("a text of at most 80 characters");
        HookHours x = new HookHours();
        for (int length = 1; length <= 80; length++) {
            due.is("type, to " + length, x.type(length % 2 == 1 ? 'n' : ','), length);
            due.is("count(15)", x.count(15), length);
        }
        due.is("type, to 81", x.type('n'), FULL);
        due.is("count(15)", x.count(15), 80);
        due.is("the text is as it was", x.perform(), -180);
        due.is("type, to 81", x.type('n'), FULL);
        due.is("the text is as it was", x.perform(), -180);
        due.is("clearText()", x.clearText(), 80);
        due.is("count(15)", x.count(15), 0);
        due.is("type, to 1", x.type('d'), 1);
        due.is("nothing is left of the text before", x.perform(), -101);
        due.is("type, to 2", x.type('7'), 2);
        due.is("perform()", x.perform(), 1);
        due.is("clearText()", x.clearText(), 2);
        due.is("clearText() of none", x.clearText(), 0);
    }

    private static void emptyText() {
        due.part("empty at first; the empty text ends too early");
        HookHours x = new HookHours();
        due.is("count(15)", x.count(15), 0);
        due.is("perform()", x.perform(), -100);
        Steps.write(x, "d5");
        x.clearText();
        due.is("perform() of a text that was emptied", x.perform(), -100);
        due.is("count(14)", x.count(14), 0);
    }

    /** Each number of a plan: what stands before it and behind it, the first and the last value. */
    private record Place(String before, String behind, int first, int last) {
    }

    private static final Place[] PLACES = {new Place("b", "c0h0w1=1", 0, 5), new Place("b0c", "h0w1=1", 0, 2),
        new Place("b0c0h", "w1=1", 0, 15), new Place("b0c0h0w", "=1", 1, 60), new Place("b0c0h0w1=", "", 1, 999),
        new Place("b0c0h0w1=", ",d0", 1, 999), new Place("e", ":0", 0, 15), new Place("e0:", "", 0, 99),
        new Place("e0:", ",n", 0, 99), new Place("d", "", 0, 99), new Place("d", ",d0", 0, 99),
        new Place("d0,b", "c2h9w9=9,d0", 0, 5), new Place("d0,e", ":10,d0", 0, 15)};

    /** All runs of up to four digits, at each place where a number stands. */
    private static void everyNumber() {
        due.part("numbers, their digits and zeros");
        for (Place place : PLACES) {
            Set<String> begins = new HashSet<>();
            Set<String> whole = new HashSet<>();
            for (int value = place.first; value <= place.last; value++) {
                String digits = Integer.toString(value);
                whole.add(digits);
                for (int length = 0; length <= digits.length(); length++) {
                    begins.add(digits.substring(0, length));
                }
            }
            for (int length = 0; length <= 4; length++) {
                for (int number = 0; number < Math.pow(10, length); number++) {
                    String digits = length == 0 ? "" : String.format("%0" + length + "d", number);
                    int taken = 0;
                    while (taken < length && begins.contains(digits.substring(0, taken + 1))) {
                        taken++;
                    }
                    boolean fits = taken == length && whole.contains(digits);
                    number(place, digits, fits ? -1 : place.before.length() + taken);
                }
            }
        }
    }

    private static void number(Place place, String digits, int fault) {
        String text = place.before + digits + place.behind;
        int got = Steps.performed(new HookHours(), text);
        due.is("fault of \"" + text + "\"", got <= -100 ? -100 - got : -1, fault);
    }

    private static void likeTheModel(String text) {
        Model model = new Model();
        for (int i = 0; i < text.length(); i++) {
            model.type(text.charAt(i));
        }
        due.is("perform() of \"" + text + "\"", Steps.performed(new HookHours(), text), model.perform());
    }

    private static final String LONG = "b1c1h11w21=32,e11:21,d21,n";

    private static void everySignAtEveryPlace() {
        due.part("the first character that is not allowed at its place");
        String wild = "" + (char) 0 + (char) 9 + (char) 10 + (char) 13 + (char) 127 + (char) 128 + (char) 160
            + (char) 255 + (char) 0x130 + (char) 0x3000 + (char) 0x660 + (char) 0x661 + (char) 0xff11 + (char) 0xffff;
        StringBuilder signs = new StringBuilder(wild);
        for (char sign = 32; sign < 127; sign++) {
            signs.append(sign);
        }
        for (int at = 0; at <= LONG.length(); at++) {
            for (int i = 0; i < signs.length(); i++) {
                String before = LONG.substring(0, at) + signs.charAt(i);
                likeTheModel(before);
                likeTheModel(before + LONG.substring(at));
                if (at < LONG.length()) {
                    likeTheModel(before + LONG.substring(at + 1));
                }
            }
        }
    }

    private static void everyTextThatEndsTooEarly() {
        due.part("the length of the text if it ends too early");
        int[] early = new int[LONG.length()];
        // A text may end behind a number's last digit alone; here: "=3", "=32", ":2", ":21", "d2", "d21".
        for (int length = 0; length < LONG.length(); length++) {
            early[length] = -100 - length;
        }
        for (int whole : new int[] {12, 13, 19, 20, 23, 24}) {
            early[whole] = whole <= 13 ? 1 : whole <= 20 ? 2 : 3;
        }
        for (int length = 0; length < LONG.length(); length++) {
            String text = LONG.substring(0, length);
            due.is("perform() of \"" + text + "\"", Steps.performed(new HookHours(), text), early[length]);
        }
    }

    private static void text(String text, int want) {
        due.is("perform() of \"" + text + "\"", Steps.performed(new HookHours(), text), want);
    }

    private static void entriesAndCommas() {
        due.part("one or more entries with \",\" between two");
        text("d0", 1);
        text("d0,d0", 2);
        text("d0,", -103);
        text(",d0", -100);
        text(",", -100);
        text("d0,,d0", -103);
        text("d0d0", -102);
        text("d0;d0", -102);
        text("d0 ", -102);
        text(" d0", -100);
        text("n", NOT_POSSIBLE);
        text("n,", -102);
        text("nd0", -101);
        text("e0:0e1:1", -104);
        text("b0c0h0w1=1b1c0h0w1=1", -110);
        text("b0c0h0w1=999b1c0h0w1=1", -112);
        text("e0:5,d0,e1:6,b0c0h1w5=5,d1", 5);
        text("D0", -100);
        text("B0c0h0w1=1", -100);
        text("b0,c0h0w1=1", -102);
    }

    private static void numbersAreRead() {
        due.part("a plan's numbers are those of its calls");
        for (int hour = 0; hour < 16; hour++) {
            HookHours x = new HookHours();
            due.is("e" + hour + ":99", Steps.performed(x, "e" + hour + ":99"), 1);
            due.is("wind(" + hour + ")", x.wind(hour), 99);
        }
        for (int wind = 0; wind <= 99; wind++) {
            HookHours x = new HookHours();
            due.is("a plan", Steps.performed(x, "e15:" + wind + ",d" + wind), 2);
            due.is("wind(15)", x.wind(15), wind);
            due.is("wind(0)", x.wind(0), wind);
        }
        for (int coins = 1; coins <= 999; coins++) {
            HookHours x = new HookHours();
            x.fund(coins % 6, 999);
            int weight = 1 + coins % 60;
            int hour = coins % 16;
            String bid = "b" + coins % 6 + "c2h" + hour + "w" + weight + "=" + coins;
            due.is(bid, Steps.performed(x, bid), 1);
            due.is("slot(2, .., 4) of " + bid, x.slot(2, hour, 4), coins);
            due.is("firm(.., 1) of " + bid, x.firm(coins % 6, 1), coins);
            x.expect(hour, 0);
            due.is("award of " + bid, x.award(2, hour), coins % 6);
            due.is("weight of " + bid, x.slot(2, hour, 1), weight);
        }
    }

    private static void faultsOfLongTexts() {
        due.part("the fault of a text of 80 characters");
        String plan = "e1:11,e1:12,e1:13,e1:14,e1:15,e1:16,e1:17,e1:18,e1:19,e1:21,e1:22,e1:23,e1:24,d5";
        due.is("its length", plan.length(), 80);
        text(plan, 14);
        text(plan.substring(0, 79), -179);
        for (int at = 0; at < 80; at++) {
            text(plan.substring(0, at) + "x" + plan.substring(at + 1), -100 - at);
        }
        text(plan.substring(0, 77) + ",n,", -180);
        text(plan.substring(0, 77) + ",d,", -179);
    }

    private static void theMostEntries() {
        due.part("how many entries there are");
        StringBuilder days = new StringBuilder("d0");
        for (int hour = 1; hour < 16; hour++) {
            days.append(",d0");
        }
        days.append(",n");
        for (int hour = 0; hour < 9; hour++) {
            days.append(",d0");
        }
        days.append(",d10");
        due.is("its length", days.length(), 80);
        HookHours x = new HookHours();
        due.is("27 entries", Steps.performed(x, days.toString()), 27);
        due.is("count(0)", x.count(0), 1);
        due.is("count(1)", x.count(1), 10);
        due.is("wind(9)", x.wind(9), 10);
        due.is("count(14)", x.count(14), 1);
        due.is("count(15), the text stays", x.count(15), 80);
        due.is("17 of them again: then the day goes on", x.perform(), NOT_POSSIBLE);
        due.is("stopped(0)", x.stopped(0), 6);
        due.is("stopped(1)", x.stopped(1), NOT_POSSIBLE);
        HookHours y = new HookHours();
        StringBuilder next = new StringBuilder("n");
        for (int i = 1; i < 40; i++) {
            next.append(",n");
        }
        due.is("40 entries", Steps.performed(y, next.toString()), NOT_POSSIBLE);
        due.is("stopped(0)", y.stopped(0), 0);
    }

    private static void noneDoesNothing() {
        due.part("one that would return NONE does nothing");
        HookHours x = new HookHours();
        due.is("a plan", Steps.performed(x, "e5:20,e5:21,e5:21,d3"), 4);
        due.is("wind(5)", x.wind(5), 21);
        due.is("count(1)", x.count(1), 1);
        due.is("stopped(0)", x.stopped(0), NONE);
        due.is("stopped(1)", x.stopped(1), NONE);
        HookHours y = new HookHours();
        due.is("a plan of these alone", Steps.performed(y, "e5:20,e6:20"), 2);
        due.is("count(14), it returned no error and not NONE", y.count(14), 1);
        due.is("undo()", y.undo(), 0);
    }

    private static void oneAct() {
        due.part("this is one act");
        HookHours x = new HookHours();
        x.fund(0, 1);
        x.fund(0, 2);
        x.fund(0, 3);
        due.is("a plan of 6", Steps.performed(x, "d1,d2,d3,e5:6,b0c0h6w7=8,d9"), 6);
        due.is("count(14)", x.count(14), 4);
        due.is("a plan of 2", Steps.performed(x, "d1,d2"), 2);
        due.is("count(14)", x.count(14), 4);
        due.is("undo()", x.undo(), 3);
        due.is("count(1)", x.count(1), 4);
        due.is("undo()", x.undo(), 2);
        due.is("count(1)", x.count(1), 0);
        due.is("count(2)", x.count(2), 0);
        due.is("wind(5)", x.wind(5), 20);
        due.is("firm(0, 0)", x.firm(0, 0), 106);
        due.is("undo()", x.undo(), 1);
        due.is("undo(), the oldest one was dropped", x.undo(), 0);
        due.is("firm(0, 0)", x.firm(0, 0), 101);
    }

    private static void stopsStay() {
        due.part("the latest stop");
        HookHours x = new HookHours();
        due.is("a plan", Steps.performed(x, "d0"), 1);
        due.is("stopped(0), none was stopped yet", x.stopped(0), NONE);
        due.is("a fault", Steps.performed(x, "d0,"), -103);
        due.is("stopped(1), none was stopped yet", x.stopped(1), NONE);
        due.is("a stop", Steps.performed(x, "d0,d0,e1:5"), NOT_POSSIBLE);
        due.is("stopped(0)", x.stopped(0), 2);
        due.is("a plan", Steps.performed(x, "d0"), 1);
        due.is("stopped(0) after a plan", x.stopped(0), 2);
        due.is("a fault", Steps.performed(x, "d"), -101);
        due.is("stopped(0) after a fault", x.stopped(0), 2);
        due.is("a method's error", x.fund(0, 0), -2);
        due.is("stopped(1) after a method's error", x.stopped(1), NOT_POSSIBLE);
        due.is("undo()", x.undo(), 1);
        due.is("keep()", x.keep(), 0);
        due.is("restore()", x.restore(), 0);
        due.is("stopped(0) after undo() and restore()", x.stopped(0), 2);
        due.is("another stop", Steps.performed(x, "b0c0h9w9=101"), NOT_POSSIBLE);
        due.is("stopped(0)", x.stopped(0), 0);
        due.is("stopped(1)", x.stopped(1), -6);
    }
}
