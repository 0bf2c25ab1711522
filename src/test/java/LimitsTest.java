import java.util.ArrayList;
import java.util.List;

/** The sentences of "Terms" on cranes, firms, half hours, bids, awards, trades and the day that name a limit. */
final class LimitsTest {
    private static final int UNKNOWN = -1;
    private static final int FULL = -3;
    private static final int NOT_POSSIBLE = -4;
    private static final int NONE = -5;
    private static final int TOO_POOR = -6;
    private static final Due due = new Due();

    public static void main(String[] args) {
        purseByFund();
        purseByTrades();
        purseByRefunds();
        everyWindAndWeight();
        cheapestBearsTheWeight();
        cheapestOfSeveral();
        sixtyBids();
        sixtyBidsByAPlan();
        roomAfterSixtyBids();
        oneBidForEachSlot();
        sixBidsForASlot();
        offersUpToThePurse();
        offersFollowThePurse();
        offersOfAnotherFirm();
        everyMixOfBids();
        awardedJustOnce();
        noBidIsBorne();
        awardGoesByWhatIsExpectedThen();
        tradeToAnother();
        tradeUntilItIsDone();
        tradeUpToWhatIsFree();
        tradedLiftIsTheBuyers();
        due.end();
    }

    private static void purseByFund() {
        due.part("fund() brings a purse to 9999 at most");
        for (int coins = 1; coins <= 999; coins++) {
            HookHours x = new HookHours();
            Steps.fundTo(x, 4, 9999 - coins);
            if (coins < 999) {
                due.is("fund(4, " + coins + " + 1) to 10000", x.fund(4, coins + 1), FULL);
                due.is("firm(4, 0)", x.firm(4, 0), 9999 - coins);
            }
            due.is("fund(4, " + coins + ") to 9999", x.fund(4, coins), 9999);
            due.is("fund(4, 1) at 9999", x.fund(4, 1), FULL);
            due.is("firm(4, 0)", x.firm(4, 0), 9999);
            due.is("count(11)", x.count(11), 600 + 9899);
            due.is("fund(5, 1), another purse", x.fund(5, 1), 101);
        }
    }

    private static void purseByTrades() {
        due.part("trades may bring a purse above 9999");
        HookHours x = new HookHours();
        Steps.fundTo(x, 0, 9999);
        Steps.fundTo(x, 1, 1098);
        x.bid(0, 0, 3, 5, 5);
        x.bid(0, 0, 4, 5, 5);
        x.award(0, 3);
        x.award(0, 4);
        due.is("trade(0, 3, 1, 5, 1)", x.trade(0, 3, 1, 5, 1), 10000);
        due.is("fund(0, 1)", x.fund(0, 1), FULL);
        due.is("trade(0, 4, 1, 5, 999)", x.trade(0, 4, 1, 5, 999), 10999);
        due.is("fund(0, 1)", x.fund(0, 1), FULL);
        due.is("firm(0, 0)", x.firm(0, 0), 10999);
        for (int hour = 5; hour <= 14; hour++) {
            due.is("bid(0, 1, .., 5, 999)", x.bid(0, 1, hour, 5, 999), 1);
        }
        due.is("bid(0, 2, 5, 5, 999)", x.bid(0, 2, 5, 5, 999), 1);
        due.is("bid(0, 2, 6, 5, 11), all but 10 is offered", x.bid(0, 2, 6, 5, 11), TOO_POOR);
        due.is("bid(0, 2, 6, 5, 10)", x.bid(0, 2, 6, 5, 10), 1);
        due.is("firm(0, 1)", x.firm(0, 1), 10999);
        due.is("withdraw(0, 2, 5)", x.withdraw(0, 2, 5), 999);
        x.bid(2, 0, 7, 5, 5);
        x.award(0, 7);
        due.is("trade(0, 7, 0, 5, 999)", x.trade(0, 7, 0, 5, 999), 1099);
        due.is("fund(0, 1) to 10001", x.fund(0, 1), FULL);
        x.bid(3, 0, 8, 5, 5);
        x.award(0, 8);
        x.withdraw(0, 1, 5);
        due.is("trade(0, 8, 0, 5, 2)", x.trade(0, 8, 0, 5, 2), 102);
        due.is("fund(0, 2) to 10000", x.fund(0, 2), FULL);
        due.is("fund(0, 1), below again", x.fund(0, 1), 9999);
        due.is("count(11)", x.count(11), 600 + 9899 + 998 + 1);
    }

    private static void purseByRefunds() {
        due.part("refunds may bring a purse above 9999");
        HookHours x = new HookHours();
        x.bid(0, 0, 0, 5, 100);
        x.bid(1, 0, 0, 5, 90);
        x.award(0, 0);
        due.is("firm(0, 0)", x.firm(0, 0), 10);
        for (int i = 0; i < 9; i++) {
            x.fund(0, 999);
        }
        due.is("fund(0, 999)", x.fund(0, 998), 9999);
        due.is("done(66)", x.done(66), 0);
        due.is("firm(0, 0)", x.firm(0, 0), 10089);
        due.is("firm(0, 5)", x.firm(0, 5), 0);
        due.is("count(8)", x.count(8), 0);
        due.is("count(9)", x.count(9), 90);
        due.is("fund(0, 1)", x.fund(0, 1), FULL);
        due.is("bid(0, 0, 1, 5, 999)", x.bid(0, 0, 1, 5, 999), 1);
    }

    /** A crane bears a lift at some wind if the wind is at most 70 less its weight. */
    private static void everyWindAndWeight() {
        due.part("the wind is at most 70 less the weight");
        for (int crane = 0; crane < 3; crane++) {
            for (int weight = 1; weight <= 20 * crane + 20; weight++) {
                for (int wind = 0; wind <= 99; wind++) {
                    boolean bears = wind + weight <= 70;
                    String lift = "crane " + crane + ", weight " + weight + ", wind " + wind;
                    HookHours x = new HookHours();
                    x.expect(0, wind);
                    due.is("heaviest, " + lift, x.heaviest(crane, 0) >= weight ? 1 : 0, bears ? 1 : 0);
                    due.is("wouldCost, " + lift, x.wouldCost(3, crane, 0, weight, 1), bears ? 0 : NONE);
                    x.bid(3, crane, 0, weight, 1);
                    due.is("award, " + lift, x.award(crane, 0), bears ? 3 : NONE);
                    HookHours y = new HookHours();
                    y.expect(0, 0);
                    y.bid(3, crane, 0, weight, 1);
                    due.is("done, " + lift, y.done(wind), bears ? 1 : 0);
                    due.is("slot(.., 6), " + lift, y.slot(crane, 0, 6), bears ? 0 : 3);
                    due.is("firm(3, 4), " + lift, y.firm(3, 4), bears ? 1 : 0);
                }
            }
        }
    }

    private static void cheapestBearsTheWeight() {
        due.part("promise 22: in which the crane bears the weight");
        for (int crane = 0; crane < 3; crane++) {
            for (int weight = 1; weight <= 20 * crane + 20; weight++) {
                HookHours x = new HookHours();
                for (int hour = 0; hour < 16; hour++) {
                    x.expect(hour, 71 - weight);
                }
                due.is("cheapest(" + crane + ", " + weight + ")", x.cheapest(crane, weight), NONE);
                x.expect(15, 70 - weight);
                due.is("cheapest(" + crane + ", " + weight + ")", x.cheapest(crane, weight), 15);
                x.expect(6, 0);
                due.is("cheapest(" + crane + ", " + weight + ")", x.cheapest(crane, weight), 6);
            }
        }
    }

    private static void cheapestOfSeveral() {
        due.part("promise 22: the lowest highest offer, of several the first");
        HookHours x = new HookHours();
        for (int hour = 0; hour < 16; hour++) {
            x.bid(hour % 6, 2, hour, 60, 9);
            x.bid((hour + 1) % 6, 2, hour, 1, 3);
        }
        due.is("cheapest(2, 50), all alike", x.cheapest(2, 50), 0);
        x.withdraw(3, 2, 15);
        due.is("cheapest(2, 50), 15 alone is lower", x.cheapest(2, 50), 15);
        x.withdraw(0, 2, 12);
        due.is("cheapest(2, 50), of 12 and 15 the first", x.cheapest(2, 50), 12);
        x.withdraw(4, 2, 15);
        due.is("cheapest(2, 50), 15 has no bid", x.cheapest(2, 50), 15);
        x.withdraw(1, 2, 12);
        due.is("cheapest(2, 50), of 12 and 15 the first", x.cheapest(2, 50), 12);
        x.bid(5, 2, 12, 60, 1);
        due.is("cheapest(2, 50), 12 has a bid that is not borne", x.cheapest(2, 50), 15);
        x.expect(15, 21);
        due.is("cheapest(2, 50), 15 does not bear it", x.cheapest(2, 50), 12);
        x.bid(0, 2, 12, 50, 1);
        x.award(2, 12);
        due.is("cheapest(2, 50), 12 is awarded", x.cheapest(2, 50), 0);
        x.done(0);
        due.is("cheapest(2, 50), 0 is done", x.cheapest(2, 50), 1);
        due.is("cheapest(2, 49)", x.cheapest(2, 49), 15);
        due.is("cheapest(1, 40), another crane", x.cheapest(1, 40), 1);
    }

    private static void sixtyBids() {
        due.part("at most 60 bids are there");
        HookHours x = new HookHours();
        for (int i = 0; i < 60; i++) {
            due.is("count(2)", x.count(2), i);
            due.is("bid " + i, x.bid(i % 6, i / 20, i / 6, 1, 1), 1 + (i % 6) - skipped(i));
        }
        due.is("count(2)", x.count(2), 60);
        due.is("bid 60", x.bid(0, 2, 10, 1, 1), FULL);
        due.is("bid 60, in place of none", x.bid(5, 0, 15, 1, 90), FULL);
        due.is("wouldCost", x.wouldCost(0, 2, 10, 1, 1), FULL);
        due.is("count(2)", x.count(2), 60);
        due.is("keep()", x.keep(), 60);
        due.is("withdraw(0, 0, 0)", x.withdraw(0, 0, 0), 1);
        due.is("restore()", x.restore(), 60);
        due.is("bid 60", x.bid(0, 2, 10, 1, 1), FULL);
        for (int i = 0; i < 60; i++) {
            due.is("withdraw " + i, x.withdraw(i % 6, i / 20, i / 6), 1);
        }
        due.is("count(2)", x.count(2), 0);
        due.is("bid(0, 2, 10, 1, 1)", x.bid(0, 2, 10, 1, 1), 1);
    }

    /** How many of the firms below have bid for another crane in the half hour of this bid. */
    private static int skipped(int bid) {
        int first = bid / 6 * 6;
        int firstOfCrane = bid / 20 * 20;
        return Math.max(0, firstOfCrane - first);
    }

    private static void sixtyBidsByAPlan() {
        due.part("at most 60 bids are there");
        HookHours x = new HookHours();
        Steps.fillBids(x);
        x.withdraw(0, 0, 5);
        x.withdraw(1, 0, 5);
        due.is("the 59th and the 60th", Steps.performed(x, "b0c0h0w1=1,b1c0h0w1=1"), 2);
        due.is("count(2)", x.count(2), 60);
        x.undo();
        due.is("the 61st", Steps.performed(x, "b0c0h0w1=1,b1c0h0w1=1,b2c0h0w1=1"), NOT_POSSIBLE);
        due.is("stopped(0)", x.stopped(0), 2);
        due.is("stopped(1)", x.stopped(1), FULL);
        due.is("count(2)", x.count(2), 58);
    }

    private static void roomAfterSixtyBids() {
        due.part("at most 60 bids are there: what is gone leaves room");
        HookHours x = new HookHours();
        Steps.fillBids(x);
        due.is("award(0, 5), six bids are gone", x.award(0, 5), 0);
        due.is("count(2)", x.count(2), 54);
        for (int firm = 0; firm < 6; firm++) {
            due.is("bid(" + firm + ", 0, 0, 1, 1)", x.bid(firm, 0, 0, 1, 1), firm + 1);
        }
        due.is("bid(0, 1, 0, 1, 1)", x.bid(0, 1, 0, 1, 1), FULL);
        x.done(0);
        due.is("count(2)", x.count(2), 54);
        for (int firm = 0; firm < 6; firm++) {
            due.is("bid(" + firm + ", 2, 1, 60, 1)", x.bid(firm, 2, 1, 60, 1), firm + 1);
        }
        due.is("bid(0, 1, 1, 1, 1)", x.bid(0, 1, 1, 1, 1), FULL);
        x.done(0);
        due.is("count(6), they were not borne", x.count(6), 1);
        due.is("count(2)", x.count(2), 54);
        due.is("bid(0, 2, 2, 1, 1)", x.bid(0, 2, 2, 1, 1), 1);
    }

    private static void oneBidForEachSlot() {
        due.part("a firm has at most one bid for each crane and half hour");
        for (int firm = 0; firm < 6; firm++) {
            HookHours x = new HookHours();
            due.is("bid", x.bid(firm, 1, 7, 5, 5), 1);
            due.is("the same again", x.bid(firm, 1, 7, 5, 5), NOT_POSSIBLE);
            due.is("a higher one", x.bid(firm, 1, 7, 6, 6), NOT_POSSIBLE);
            due.is("another crane", x.bid(firm, 0, 7, 5, 5), 1);
            due.is("another crane", x.bid(firm, 2, 7, 5, 5), 1);
            due.is("another half hour", x.bid(firm, 1, 6, 5, 5), 1);
            due.is("another half hour", x.bid(firm, 1, 8, 5, 5), 1);
            due.is("another firm", x.bid((firm + 1) % 6, 1, 7, 5, 5), 2);
            due.is("withdraw", x.withdraw(firm, 1, 7), 5);
            due.is("withdraw again", x.withdraw(firm, 1, 7), UNKNOWN);
            due.is("bid anew", x.bid(firm, 1, 7, 6, 7), 2);
            due.is("slot(1, 7, 4)", x.slot(1, 7, 4), 7);
            due.is("firm(.., 2)", x.firm(firm, 2), 5);
        }
    }

    private static void sixBidsForASlot() {
        due.part("six bids for a crane and a half hour");
        HookHours x = new HookHours();
        for (int i = 0; i < 6; i++) {
            int firm = (i + 4) % 6;
            due.is("slot(2, 15, 3)", x.slot(2, 15, 3), i);
            due.is("bid(" + firm + ", 2, 15, 1, 1)", x.bid(firm, 2, 15, 1, 1), i + 1);
        }
        due.is("slot(2, 15, 3)", x.slot(2, 15, 3), 6);
        due.is("slot(1, 15, 3)", x.slot(1, 15, 3), 0);
        due.is("slot(2, 14, 3)", x.slot(2, 14, 3), 0);
    }

    private static void offersUpToThePurse() {
        due.part("what a firm offers in all bids is at most its purse");
        HookHours x = new HookHours();
        due.is("bid of 101", x.bid(1, 0, 0, 5, 101), TOO_POOR);
        due.is("bid of 100", x.bid(1, 0, 0, 5, 100), 1);
        due.is("bid of 1 more", x.bid(1, 0, 1, 5, 1), TOO_POOR);
        due.is("bid of another firm", x.bid(0, 0, 1, 5, 100), 1);
        HookHours y = new HookHours();
        for (int hour = 0; hour < 16; hour++) {
            due.is("bid of 6", y.bid(1, 0, hour, 5, 6), 1);
        }
        due.is("16 times 6 and 5", y.bid(1, 1, 0, 5, 5), TOO_POOR);
        due.is("16 times 6 and 4", y.bid(1, 1, 0, 5, 4), 1);
        due.is("and 1", y.bid(1, 2, 15, 5, 1), TOO_POOR);
        due.is("firm(1, 1)", y.firm(1, 1), 100);
        due.is("firm(1, 2)", y.firm(1, 2), 17);
        due.is("firm(1, 0), nothing is taken yet", y.firm(1, 0), 100);
    }

    private static void offersFollowThePurse() {
        due.part("what a firm offers in all bids is at most its purse");
        HookHours x = new HookHours();
        x.bid(1, 0, 0, 5, 60);
        x.bid(2, 0, 0, 5, 25);
        x.bid(1, 0, 1, 5, 40);
        x.fund(1, 3);
        due.is("bid of 4 after fund(1, 3)", x.bid(1, 2, 2, 5, 4), TOO_POOR);
        due.is("bid of 3 after fund(1, 3)", x.bid(1, 2, 2, 5, 3), 1);
        x.withdraw(1, 2, 2);
        due.is("bid of 4 after withdraw", x.bid(1, 2, 2, 5, 4), TOO_POOR);
        x.award(0, 0);
        due.is("firm(1, 0), 25 of 60 are paid", x.firm(1, 0), 78);
        due.is("bid of 39 after award", x.bid(1, 2, 2, 5, 39), TOO_POOR);
        due.is("bid of 38 after award", x.bid(1, 2, 2, 5, 38), 1);
        due.is("trade", x.trade(0, 0, 3, 5, 12), 90);
        due.is("bid of 13 after a trade", x.bid(1, 2, 3, 5, 13), TOO_POOR);
        due.is("bid of 12 after a trade", x.bid(1, 2, 3, 5, 12), 1);
        due.is("bid of 89 of the buyer", x.bid(3, 2, 3, 5, 89), TOO_POOR);
        due.is("bid of 88 of the buyer", x.bid(3, 2, 3, 5, 88), 2);
        x.done(66);
        due.is("the buyer's purse after the refund", x.firm(3, 0), 113);
        due.is("bid of 26 of the buyer", x.bid(3, 2, 4, 5, 26), TOO_POOR);
        due.is("bid of 25 of the buyer", x.bid(3, 2, 4, 5, 25), 1);
        x.done(0);
        due.is("firm(1, 0), the only bid costs nothing", x.firm(1, 0), 90);
        due.is("bid of 41, what was offered is free", x.bid(1, 0, 4, 5, 41), TOO_POOR);
        due.is("bid of 40, what was offered is free", x.bid(1, 0, 4, 5, 40), 1);
    }

    private static void offersOfAnotherFirm() {
        due.part("what a firm offers in all bids, not what another one does");
        for (int firm = 0; firm < 6; firm++) {
            HookHours x = new HookHours();
            for (int other = 0; other < 6; other++) {
                if (other != firm) {
                    x.bid(other, 0, 0, 5, 50);
                    x.bid(other, 2, 15, 5, 50);
                }
            }
            due.is("firm(" + firm + ", 1)", x.firm(firm, 1), 0);
            due.is("firm(" + firm + ", 2)", x.firm(firm, 2), 0);
            due.is("bid of 50", x.bid(firm, 0, 0, 5, 50), 6);
            due.is("bid of 51", x.bid(firm, 2, 15, 5, 51), TOO_POOR);
            due.is("bid of 50", x.bid(firm, 2, 15, 5, 50), 6);
            due.is("firm(" + firm + ", 1)", x.firm(firm, 1), 100);
        }
    }

    /** A firm's part in a mix of bids: none, borne at 10 or at 11, not borne at 10 or at 12. */
    private static final int[] OFFERS = {0, 10, 11, 10, 12};
    private static final int[] WEIGHTS = {0, 50, 1, 51, 60};

    private static void everyMixOfBids() {
        due.part("the highest one gets it at what the next one offers");
        for (int mix = 0; mix < 15625; mix++) {
            int[] kinds = new int[6];
            for (int firm = 0, rest = mix; firm < 6; firm++, rest /= 5) {
                kinds[firm] = rest % 5;
            }
            List<Integer> borne = new ArrayList<>();
            List<Integer> all = new ArrayList<>(List.of(0));
            int best = 0;
            for (int firm = 0; firm < 6; firm++) {
                all.add(OFFERS[kinds[firm]]);
                if (kinds[firm] == 1 || kinds[firm] == 2) {
                    borne.add(OFFERS[kinds[firm]]);
                    best = Math.max(best, OFFERS[kinds[firm]]);
                }
            }
            int winner = NONE;
            for (int firm = 5; firm >= 0; firm--) {
                winner = kinds[firm] == 1 && best == 10 || kinds[firm] == 2 && best == 11 ? firm : winner;
            }
            borne.sort(null);
            all.sort(null);
            int price = borne.size() < 2 ? 0 : borne.get(borne.size() - 2);
            mixOfBids(kinds, winner, price, all.get(all.size() - 1));
        }
    }

    private static void mixOfBids(int[] kinds, int winner, int price, int highest) {
        String mix = "mix " + java.util.Arrays.toString(kinds);
        HookHours x = new HookHours();
        int bids = 0;
        int asked = 0;
        for (int firm = 0; firm < 6; firm++) {
            if (kinds[firm] > 0) {
                x.bid(firm, 2, 8, WEIGHTS[kinds[firm]], OFFERS[kinds[firm]]);
                bids++;
                asked = firm;
            }
        }
        due.is("slot(2, 8, 3) of " + mix, x.slot(2, 8, 3), bids);
        due.is("slot(2, 8, 4) of " + mix, x.slot(2, 8, 4), highest);
        if (bids > 0) {
            x.withdraw(asked, 2, 8);
            int cost = x.wouldCost(asked, 2, 8, WEIGHTS[kinds[asked]], OFFERS[kinds[asked]]);
            due.is("wouldCost of " + asked + " in " + mix, cost, winner == asked ? price : NONE);
            x.bid(asked, 2, 8, WEIGHTS[kinds[asked]], OFFERS[kinds[asked]]);
        }
        due.is("award of " + mix, x.award(2, 8), winner);
        due.is("slot(2, 8, 0) of " + mix, x.slot(2, 8, 0), winner);
        due.is("slot(2, 8, 1) of " + mix, x.slot(2, 8, 1), winner == NONE ? 0 : WEIGHTS[kinds[winner]]);
        due.is("slot(2, 8, 2) of " + mix, x.slot(2, 8, 2), price);
        due.is("slot(2, 8, 3) then of " + mix, x.slot(2, 8, 3), winner == NONE ? bids : 0);
        due.is("slot(2, 8, 4) then of " + mix, x.slot(2, 8, 4), winner == NONE ? highest : 0);
        due.is("count(8) of " + mix, x.count(8), price);
        for (int firm = 0; firm < 6; firm++) {
            due.is("firm(" + firm + ", 0) of " + mix, x.firm(firm, 0), firm == winner ? 100 - price : 100);
            due.is("firm(" + firm + ", 3) of " + mix, x.firm(firm, 3), firm == winner ? 1 : 0);
        }
    }

    private static void awardedJustOnce() {
        due.part("it is awarded just once");
        HookHours x = new HookHours();
        x.bid(1, 2, 0, 50, 30);
        x.bid(2, 2, 0, 51, 40);
        x.bid(3, 2, 0, 50, 20);
        due.is("award(2, 0)", x.award(2, 0), 1);
        due.is("count(2), all bids are gone, borne or not", x.count(2), 0);
        due.is("withdraw(2, 2, 0)", x.withdraw(2, 2, 0), UNKNOWN);
        for (int firm = 0; firm < 6; firm++) {
            due.is("bid(" + firm + ", 2, 0, 1, 50)", x.bid(firm, 2, 0, 1, 50), NOT_POSSIBLE);
            due.is("firm(" + firm + ", 1)", x.firm(firm, 1), 0);
        }
        due.is("award(2, 0) again", x.award(2, 0), NOT_POSSIBLE);
        due.is("cheapest(2, 1)", x.cheapest(2, 1), 1);
        due.is("done(20)", x.done(20), 1);
        due.is("slot(2, 0, 0)", x.slot(2, 0, 0), 1);
        due.is("slot(2, 0, 2)", x.slot(2, 0, 2), 20);
        due.is("count(8), it is paid once", x.count(8), 20);
        due.is("firm(1, 4)", x.firm(1, 4), 1);
        due.is("award(2, 0), done", x.award(2, 0), NOT_POSSIBLE);
    }

    private static void noBidIsBorne() {
        due.part("if no bid is borne, nothing is awarded");
        HookHours x = new HookHours();
        x.bid(1, 2, 0, 51, 30);
        x.bid(2, 2, 0, 60, 40);
        due.is("award(2, 0)", x.award(2, 0), NONE);
        due.is("slot(2, 0, 0)", x.slot(2, 0, 0), NONE);
        due.is("slot(2, 0, 3)", x.slot(2, 0, 3), 2);
        due.is("firm(2, 1)", x.firm(2, 1), 40);
        due.is("bid(3, 2, 0, 52, 9), it is open", x.bid(3, 2, 0, 52, 9), 3);
        due.is("done(0), though it would bear them", x.done(0), 0);
        due.is("slot(2, 0, 6)", x.slot(2, 0, 6), 2);
        due.is("slot(2, 0, 3)", x.slot(2, 0, 3), 0);
        due.is("firm(2, 0)", x.firm(2, 0), 100);
        due.is("firm(2, 1)", x.firm(2, 1), 0);
    }

    private static void awardGoesByWhatIsExpectedThen() {
        due.part("award() goes by the wind that is expected then");
        HookHours x = new HookHours();
        x.expect(4, 11);
        x.bid(1, 2, 4, 60, 30);
        due.is("award(2, 4) at 11", x.award(2, 4), NONE);
        x.expect(4, 10);
        due.is("award(2, 4) at 10", x.award(2, 4), 1);
        x.expect(4, 99);
        due.is("slot(2, 4, 0), it stays awarded", x.slot(2, 4, 0), 1);
        Steps.endHours(x, 4, 0);
        due.is("done(10)", x.done(10), 1);
        due.is("firm(1, 4)", x.firm(1, 4), 1);
    }

    private static void tradeToAnother() {
        due.part("a firm sells an award to another one");
        for (int seller = 0; seller < 6; seller++) {
            for (int to = 0; to < 6; to++) {
                HookHours x = new HookHours();
                x.bid(seller, 0, 2, 5, 30);
                x.award(0, 2);
                String trade = "trade from " + seller + " to " + to;
                due.is(trade, x.trade(0, 2, to, 5, 100), to == seller ? NOT_POSSIBLE : 200);
                due.is("slot(0, 2, 0) after " + trade, x.slot(0, 2, 0), to);
                due.is("firm(.., 0) after " + trade, x.firm(to, 0), to == seller ? 100 : 0);
                due.is("back after " + trade, x.trade(0, 2, seller, 5, 0), to == seller ? NOT_POSSIBLE : 0);
                due.is("slot(0, 2, 0) in the end", x.slot(0, 2, 0), seller);
                due.is("count(12) in the end", x.count(12), to == seller ? 0 : 2);
            }
        }
    }

    private static void tradeUntilItIsDone() {
        due.part("a trade of what is not done yet");
        HookHours x = new HookHours();
        for (int hour = 0; hour < 16; hour++) {
            x.bid(0, 0, hour, 5, 1);
            x.award(0, hour);
        }
        for (int hour = 0; hour < 16; hour++) {
            due.is("trade(0, " + hour + ", 1, 5, 0), the next one", x.trade(0, hour, 1, 5, 0), 100);
            x.done(0);
            due.is("trade(0, " + hour + ", 2, 5, 0), done", x.trade(0, hour, 2, 5, 0), NOT_POSSIBLE);
            due.is("trade(0, " + hour + ", 1, 5, 0), done", x.trade(0, hour, 1, 5, 0), NOT_POSSIBLE);
            due.is("firm(1, 4)", x.firm(1, 4), hour + 1);
            due.is("firm(0, 3)", x.firm(0, 3), 15 - hour);
        }
        due.is("firm(0, 4)", x.firm(0, 4), 0);
        x.nextDay();
        due.is("trade(0, 15, 2, 5, 0) on the next day", x.trade(0, 15, 2, 5, 0), UNKNOWN);
    }

    private static void tradeUpToWhatIsFree() {
        due.part("the purse of the buyer, less what it offers in bids");
        HookHours x = new HookHours();
        x.bid(0, 0, 2, 5, 30);
        x.award(0, 2);
        due.is("trade of 101", x.trade(0, 2, 1, 5, 101), TOO_POOR);
        x.bid(1, 1, 3, 5, 60);
        x.bid(1, 2, 4, 5, 39);
        due.is("trade of 2, 99 of 100 is offered", x.trade(0, 2, 1, 5, 2), TOO_POOR);
        due.is("trade of 1", x.trade(0, 2, 1, 5, 1), 101);
        due.is("firm(1, 0)", x.firm(1, 0), 99);
        due.is("back for all that the seller has", x.trade(0, 2, 0, 5, 101), 200);
        due.is("firm(0, 0)", x.firm(0, 0), 0);
        due.is("trade of 0 to one that offers all", x.trade(0, 2, 2, 5, 0), 0);
        x.bid(3, 1, 3, 5, 100);
        due.is("trade of 0 to one that offers all", x.trade(0, 2, 3, 5, 0), 100);
        due.is("trade of 0 to one that has nothing", x.trade(0, 2, 0, 5, 0), 100);
    }

    private static void tradedLiftIsTheBuyers() {
        due.part("the lift is that of the buyer, the price stays with the award");
        for (int weight = 1; weight <= 60; weight++) {
            HookHours x = new HookHours();
            x.bid(0, 2, 0, 50, 30);
            x.bid(4, 2, 0, 50, 17);
            x.award(2, 0);
            due.is("trade(2, 0, 5, " + weight + ", 3)", x.trade(2, 0, 5, weight, 3), 86);
            due.is("slot(2, 0, 1)", x.slot(2, 0, 1), weight);
            due.is("slot(2, 0, 2)", x.slot(2, 0, 2), 17);
            due.is("firm(5, 3)", x.firm(5, 3), 1);
            boolean borne = weight <= 45;
            due.is("done(25)", x.done(25), borne ? 1 : 0);
            due.is("firm(5, 4)", x.firm(5, 4), borne ? 1 : 0);
            due.is("firm(0, 4)", x.firm(0, 4), 0);
            due.is("firm(5, 0)", x.firm(5, 0), borne ? 97 : 114);
            due.is("firm(5, 5)", x.firm(5, 5), borne ? 0 : -17);
            due.is("firm(0, 5)", x.firm(0, 5), 17);
            due.is("count(9)", x.count(9), borne ? 0 : 17);
            due.is("count(13)", x.count(13), borne ? weight : 0);
        }
    }
}
