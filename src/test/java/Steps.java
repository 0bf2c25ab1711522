/** Steps that many tests take. */
final class Steps {
    private Steps() {
    }

    static int write(HookHours x, String text) {
        x.clearText();
        for (int i = 0; i < text.length(); i++) {
            x.type(text.charAt(i));
        }
        return text.length();
    }

    static int performed(HookHours x, String text) {
        write(x, text);
        return x.perform();
    }

    static void endHours(HookHours x, int hours, int wind) {
        for (int i = 0; i < hours; i++) {
            x.done(wind);
        }
    }

    /** Makes 60 bids of 1 coin: ten of each firm, for cranes 0 to 2 and the half hours up to 14. */
    static void fillBids(HookHours x) {
        for (int firm = 0; firm < 6; firm++) {
            for (int i = 0; i < 10; i++) {
                x.bid(firm, i % 3, 5 + i, 1, 1);
            }
        }
    }

    /** Brings a purse from the 100 coins that it has at first to more. */
    static void fundTo(HookHours x, int firm, int coins) {
        for (int has = 100; has < coins; has += 999) {
            x.fund(firm, Math.min(999, coins - has));
        }
    }

    /** All that an object tells of its state, but for the history and the text. */
    static String told(HookHours x) {
        StringBuilder all = new StringBuilder();
        for (int firm = 0; firm < 6; firm++) {
            for (int what = 0; what <= 6; what++) {
                all.append(x.firm(firm, what)).append(' ');
            }
        }
        for (int hour = 0; hour < 16; hour++) {
            all.append("\nhour ").append(hour).append(": ").append(x.wind(hour));
            for (int crane = 0; crane < 3; crane++) {
                all.append(" / ").append(x.heaviest(crane, hour));
                for (int what = 0; what <= 6; what++) {
                    all.append(' ').append(x.slot(crane, hour, what));
                }
            }
        }
        all.append("\ncounts");
        for (int what = 0; what <= 13; what++) {
            all.append(' ').append(x.count(what));
        }
        for (int crane = 0; crane < 3; crane++) {
            for (int weight = 1; weight <= 60; weight++) {
                all.append(' ').append(x.cheapest(crane, weight));
            }
        }
        return all.toString();
    }
}
