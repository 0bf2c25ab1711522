/** Promises 10 to 13: texts, plans, what stops them. */
final class TextsTest {
    private static final Due due = new Due();

    public static void main(String[] args) {
        typeTells();
        clearTextTells();
        textIsNoPartOfTheState();
        performDoesEachKind();
        performTakesAllEdges();
        performTellsFaults();
        performTellsFaultsOfWildSigns();
        performIsOneAct();
        performDoesAllOrNothing();
        performGoesOnAfterNone();
        performOfTheLongestTexts();
        stoppedTells();
        stoppedStays();
        due.end();
    }

    private static void typeTells() {
        due.part("promise 10");
        HookHours x = new HookHours();
        for (int i = 1; i <= 80; i++) {
            due.is("type('n')", x.type('n'), i);
        }
        due.is("type('n')", x.type('n'), -3);
        due.is("type(',')", x.type(','), -3);
        due.is("count(15)", x.count(15), 80);
        due.is("count(14)", x.count(14), 0);
        due.is("clearText()", x.clearText(), 80);
        due.is("type(0)", x.type((char) 0), 1);
        due.is("type(255)", x.type((char) 255), 2);
        due.is("type(65535)", x.type((char) 65535), 3);
    }

    private static void clearTextTells() {
        due.part("promise 11");
        HookHours x = new HookHours();
        due.is("clearText()", x.clearText(), 0);
        Steps.write(x, "e0:1");
        due.is("clearText()", x.clearText(), 4);
        due.is("count(15)", x.count(15), 0);
        due.is("perform()", x.perform(), -100);
        due.is("clearText()", x.clearText(), 0);
        due.is("type('e')", x.type('e'), 1);
        due.is("perform(), nothing of before is left", x.perform(), -101);
        due.is("count(14)", x.count(14), 0);
    }

    private static void textIsNoPartOfTheState() {
        due.part("promises 10, 11");
        HookHours x = new HookHours();
        x.fund(0, 1);
        x.keep();
        Steps.write(x, "d5");
        due.is("undo()", x.undo(), 0);
        due.is("count(15)", x.count(15), 2);
        due.is("restore()", x.restore(), 0);
        due.is("count(15)", x.count(15), 2);
        due.is("perform()", x.perform(), 1);
        due.is("count(15), the text stays", x.count(15), 2);
        due.is("perform()", x.perform(), 1);
        due.is("count(1)", x.count(1), 2);
    }

    private static void performDoesEachKind() {
        due.part("promise 12");
        HookHours x = new HookHours();
        due.is("a plan", Steps.performed(x, "b4c2h10w55=60,e10:15,d7"), 3);
        due.is("slot(2, 10, 3)", x.slot(2, 10, 3), 1);
        due.is("slot(2, 10, 4)", x.slot(2, 10, 4), 60);
        due.is("firm(4, 1)", x.firm(4, 1), 60);
        due.is("wind(10)", x.wind(10), 15);
        due.is("wind(0)", x.wind(0), 7);
        due.is("count(1)", x.count(1), 1);
        due.is("award(2, 10)", x.award(2, 10), 4);
        due.is("slot(2, 10, 1)", x.slot(2, 10, 1), 55);
        Steps.endHours(x, 15, 0);
        due.is("n", Steps.performed(x, "n"), 1);
        due.is("count(0)", x.count(0), 1);
        due.is("count(1)", x.count(1), 0);
    }

    private static void performTakesAllEdges() {
        due.part("promise 12");
        String[] plans = {"b0c0h0w1=1", "b5c2h15w60=100", "b5c2h9w9=9", "b1c1h1w10=99", "e0:0", "e15:99", "e9:10",
            "d0", "d99", "d9", "d10", "d0,d99", "e15:1,e15:2"};
        for (String plan : plans) {
            int entries = plan.split(",").length;
            due.is(plan, Steps.performed(new HookHours(), plan), entries);
        }
        HookHours rich = new HookHours();
        rich.fund(0, 999);
        due.is("b0c0h0w1=999", Steps.performed(rich, "b0c0h0w1=999"), 1);
    }

    private static void fault(String text, int at) {
        HookHours x = new HookHours();
        due.is("\"" + text + "\"", Steps.performed(x, text), -100 - at);
        due.is("count(14) after \"" + text + "\"", x.count(14), 0);
        due.is("stopped(0) after \"" + text + "\"", x.stopped(0), -5);
    }

    private static void performTellsFaults() {
        due.part("promise 12");
        fault("", 0);
        for (String sign : new String[] {"a", ",", "0", "B", "c", "h", "w", "=", ":", " "}) {
            fault(sign, 0);
        }
        String bid = "b0c0h12w34=567";
        for (int length = 0; length < bid.length(); length++) {
            boolean whole = length >= 12;
            if (!whole) {
                fault(bid.substring(0, length), length);
            }
            if (length != 6 && length != 9 && length < 11) {
                fault(bid.substring(0, length) + "x" + bid.substring(length), length);
            }
        }
        fault("b6", 1);
        fault("b00", 2);
        fault("b10", 2);
        fault("b0c3", 3);
        fault("b0c00", 4);
        fault("b0c0h00", 6);
        fault("b0c0h16", 6);
        fault("b0c0h20", 6);
        fault("b0c0h010", 6);
        fault("b0c0h150", 7);
        fault("b0c0h0w0", 7);
        fault("b0c0h0w61", 8);
        fault("b0c0h0w70", 8);
        fault("b0c0h0w600", 9);
        fault("b0c0h0w5=0", 9);
        fault("b0c0h0w5=05", 9);
        fault("b0c0h0w5=1000", 12);
        fault("b0c0h0w5=5x", 10);
        fault("b0c0h0w5=5,", 11);
        fault("e", 1);
        fault("e0", 2);
        fault("e0:", 3);
        fault("e16:", 2);
        fault("e0,0", 2);
        fault("e0:00", 4);
        fault("e0:100", 5);
        fault("e00:0", 2);
        fault("e:0", 1);
        fault("d", 1);
        fault("d:", 1);
        fault("d00", 2);
        fault("d01", 2);
        fault("d100", 3);
        fault("d999", 3);
        fault("d-1", 1);
        fault("n0", 1);
        fault("nn", 1);
        fault("n,", 2);
        fault("n,,n", 2);
        fault(",n", 0);
        fault("d0,d1,d2;", 8);
        fault("d0 ,d1", 2);
        fault("d0, d1", 3);
    }

    private static void performTellsFaultsOfWildSigns() {
        due.part("promise 12");
        for (int sign = 0; sign < 65536; sign += sign < 300 ? 1 : 97) {
            boolean digit = sign >= '0' && sign <= '9';
            HookHours x = new HookHours();
            x.type('d');
            x.type((char) sign);
            due.is("d and sign " + sign, x.perform(), digit ? 1 : -101);
        }
    }

    private static void performIsOneAct() {
        due.part("promise 12");
        HookHours x = new HookHours();
        String first = Steps.told(x);
        due.is("a plan", Steps.performed(x, "b0c0h0w5=5,d0,d0,b1c0h2w5=5"), 4);
        due.is("count(14)", x.count(14), 1);
        due.is("undo()", x.undo(), 0);
        due.holds("undo() takes the whole plan back", Steps.told(x).equals(first));
    }

    private static void performDoesAllOrNothing() {
        due.part("promise 12");
        HookHours x = new HookHours();
        x.bid(2, 0, 0, 5, 5);
        String first = Steps.told(x);
        due.is("a plan", Steps.performed(x, "b0c0h0w5=5,e3:4,d60,d99,b0c0h0w5=5,d1"), -4);
        due.holds("nothing is changed", Steps.told(x).equals(first));
        due.is("count(14)", x.count(14), 1);
        due.is("stopped(0)", x.stopped(0), 4);
        due.is("stopped(1)", x.stopped(1), -4);
        due.is("a fault ahead of a stop", Steps.performed(x, "n,x"), -102);
        due.is("stopped(0)", x.stopped(0), 4);
        due.is("undo()", x.undo(), 0);
        due.is("count(2)", x.count(2), 0);
    }

    private static void performGoesOnAfterNone() {
        due.part("promise 12");
        HookHours x = new HookHours();
        due.is("a plan", Steps.performed(x, "e3:20,e4:5,e4:5"), 3);
        due.is("wind(4)", x.wind(4), 5);
        due.is("stopped(0)", x.stopped(0), -5);
        due.is("a plan that changes nothing", Steps.performed(x, "e3:20"), 1);
        due.is("count(14), it is an act", x.count(14), 2);
    }

    private static void performOfTheLongestTexts() {
        due.part("promise 12");
        HookHours x = new HookHours();
        Steps.endHours(x, 16, 0);
        StringBuilder days = new StringBuilder("n");
        for (int i = 1; i < 40; i++) {
            days.append(",n");
        }
        due.is("40 entries", Steps.performed(x, days.toString()), -4);
        due.is("stopped(0)", x.stopped(0), 1);
        due.is("80 signs that end too early", Steps.performed(x, days + ","), -180);
        HookHours y = new HookHours();
        StringBuilder winds = new StringBuilder("e1:11");
        for (int i = 1; i < 13; i++) {
            winds.append(",e1:1").append(i % 10);
        }
        due.is("80 signs", Steps.performed(y, winds.append(",n").toString()), -4);
        due.is("count(15)", y.count(15), 79);
        due.is("type('d')", y.type('d'), 80);
        due.is("perform()", y.perform(), -179);
        due.is("stopped(0)", y.stopped(0), 13);
    }

    private static void stoppedTells() {
        due.part("promise 13");
        HookHours x = new HookHours();
        due.is("stopped(0)", x.stopped(0), -5);
        due.is("stopped(1)", x.stopped(1), -5);
        due.is("stopped(2)", x.stopped(2), -2);
        due.is("stopped(-1)", x.stopped(-1), -2);
        due.is("stopped(low)", x.stopped(Integer.MIN_VALUE), -2);
        due.is("stopped(high)", x.stopped(Integer.MAX_VALUE), -2);
        due.is("too poor", Steps.performed(x, "d0,b0c0h1w1=100,b0c0h2w1=1"), -4);
        due.is("stopped(0)", x.stopped(0), 2);
        due.is("stopped(1)", x.stopped(1), -6);
        due.is("too heavy", Steps.performed(x, "b0c0h1w21=1"), -4);
        due.is("stopped(0)", x.stopped(0), 0);
        due.is("stopped(1)", x.stopped(1), -2);
        Steps.fillBids(x);
        due.is("full", Steps.performed(x, "e0:9,b0c0h0w1=1"), -4);
        due.is("stopped(0)", x.stopped(0), 1);
        due.is("stopped(1)", x.stopped(1), -3);
    }

    private static void stoppedStays() {
        due.part("promise 13");
        HookHours x = new HookHours();
        x.fund(0, 1);
        x.keep();
        Steps.performed(x, "d0,n");
        due.is("a plan", Steps.performed(x, "d0"), 1);
        x.undo();
        x.restore();
        x.clearText();
        due.is("stopped(0)", x.stopped(0), 1);
        due.is("stopped(1)", x.stopped(1), -4);
        due.is("stopped(2)", x.stopped(2), -2);
    }
}
