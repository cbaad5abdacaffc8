import java.util.function.Consumer;

/** The terms, sentence by sentence: "Orders, turns". */
public final class TermsOfTurnsTest {
    private static final Class<IllegalStateException> STATE = IllegalStateException.class;
    private static final Checks CHECKS = new Checks();

    public static void main(String[] args) {
        openStreetsThatBeginThere();
        whenAnOrderGoes();
        whenAnOrderStays();
        exchangeIsTheFirstReason();
        exchangeOnly();
        heavierRivalIsTheSecond();
        heavierByOne();
        rivalAsHeavyIsTheThird();
        oneWhoStays();
        byWhatHadFailedAheadOfTheRound();
        roundsUntilNoneFails();
        noOrder();
        atTheSameTime();
        firstDeliversAll();
        thenLooksAtParcelsThere();
        greatestValueFirst();
        ofSeveralTheLightest();
        ofSeveralTheLowestNumber();
        eachOneThatFits();
        alsoThoseWhoStay();
        ordersGoneAndOneTurnMore();
        CHECKS.end("TermsOfTurnsTest");
    }

    /** Foretold and made: how many couriers move, and the reasons of all four. */
    private static void goes(String what, CourierClash g, int movers, int... reasons) {
        for (int c = 0; c < 4; c++) {
            CHECKS.due(what + ", foretold for " + c, g.wouldGo(c), reasons[c]);
        }
        CHECKS.due(what + ", movers", g.turn(), movers);
        for (int c = 0; c < 4; c++) {
            CHECKS.due(what + ", outcome of " + c, g.outcomeOf(c), reasons[c]);
        }
    }

    /** A town where the courier c carries a parcel of the weight loads[c], but none for 0. */
    private static CourierClash loaded(String streets, int... loads) {
        CourierClash g = Checks.town(streets);
        for (int c = 0; c < 4; c++) {
            if (loads[c] > 0) {
                g.addParcel(c, 9, loads[c], 1);
            }
        }
        g.turn();
        return g;
    }

    /** "an order to take an open street that begins at its junction" */
    private static void openStreetsThatBeginThere() {
        CourierClash g = Checks.town("09 90 19");
        CHECKS.due("begins there", g.order(0, 0), 9);
        CHECKS.refused("ends there", g, STATE, () -> g.order(0, 1));
        CHECKS.refused("begins at another one", g, STATE, () -> g.order(0, 2));
        g.toggleStreet(0);
        CHECKS.refused("closed", g, STATE, () -> g.order(0, 0));
        g.toggleStreet(0);
        CHECKS.due("open again", g.order(0, 0), 9);
    }

    /** "it goes, when the courier gets another order, .., and when it gets a van, and the street is narrow" */
    private static void whenAnOrderGoes() {
        CourierClash other = Checks.town("09n 08");
        other.order(0, 0);
        CHECKS.due("another order", other.order(0, 1), 8);
        CHECKS.due("the other one now", other.orderOf(0), 1);
        for (int c = 0; c < 4; c++) {
            int courier = c;
            orderGoes("taken back", c, g -> g.takeBack(courier));
            orderGoes("the street is closed", c, g -> g.toggleStreet(courier));
            orderGoes("the courier is placed", c, g -> g.place(courier, 5));
            orderGoes("it is placed where it is", c, g -> g.place(courier, courier));
            orderGoes("it gets a van", c, g -> g.toggleVan(courier));
            orderGoes("taken back by a text", c, g -> Checks.played(g, "s" + courier));
            orderGoes("closed by a text", c, g -> Checks.played(g, "t" + courier));
        }
    }

    private static void orderGoes(String what, int courier, Consumer<CourierClash> call) {
        CourierClash g = Checks.town("09n 19n 29n 39n");
        Checks.orders(g, 0, 1, 2, 3);
        call.accept(g);
        CHECKS.refused(what + ", no street", g, STATE, () -> g.orderOf(courier));
        for (int c = 0; c < 4; c++) {
            CHECKS.due(what + ", its own alone, " + courier, g.hasOrder(c), c != courier);
            if (c != courier) {
                CHECKS.due(what + ", the others' stay", g.orderOf(c), c);
            }
        }
    }

    private static void whenAnOrderStays() {
        orderStays("a refused order", g -> Checks.answer(() -> g.order(0, 2)));
        orderStays("the same order", g -> g.order(0, 0));
        orderStays("another courier's order", g -> g.order(2, 2));
        orderStays("another courier's order gone", g -> g.takeBack(1));
        orderStays("another street closed", g -> g.toggleStreet(1));
        orderStays("another courier placed", g -> g.place(1, 5));
        orderStays("a refused place", g -> Checks.answer(() -> g.place(0, 1)));
        orderStays("another courier gets a van", g -> g.toggleVan(1));
        orderStays("a van, but a wide street", g -> g.toggleVan(0));
        orderStays("a street comes", g -> g.addStreet(0, 5, true));
        orderStays("a parcel comes", g -> g.addParcel(0, 9, 5, 9));
        orderStays("the capacity", g -> g.setCapacity(1));
        orderStays("the limit", g -> g.setLimit(1));
        orderStays("the buffer", g -> Checks.type(g, "s0"));
        orderStays("a snapshot", CourierClash::keep);
        orderStays("a text for others", g -> Checks.played(g, "s1;t1;t9"));
        CourierClash g = Checks.town("09");
        g.toggleVan(0);
        g.order(0, 0);
        g.toggleVan(0);
        CHECKS.due("a bicycle again", g.orderOf(0), 0);
    }

    private static void orderStays(String what, Consumer<CourierClash> call) {
        CourierClash g = Checks.town("09 19n 29");
        Checks.orders(g, 0, 1);
        call.accept(g);
        CHECKS.due(what, g.hasOrder(0), true);
        CHECKS.due(what + ", its street", g.orderOf(0), 0);
    }

    /** "2 (exchange)", ahead of the reasons 3 and 4; with 5 it cannot meet, for who stands there moves. */
    private static void exchangeIsTheFirstReason() {
        CourierClash heavier = loaded("01 10 21", 0, 0, 1, 0);
        Checks.orders(heavier, 0, 1, 2);
        goes("2 ahead of 3", heavier, 0, 2, 2, 5, 1);
        CourierClash asHeavy = loaded("01 10 21", 1, 0, 1, 0);
        Checks.orders(asHeavy, 0, 1, 2);
        goes("2 ahead of 4", asHeavy, 0, 2, 2, 4, 1);
    }

    private static void exchangeOnly() {
        CourierClash apart = Checks.town("01 10 23 32");
        Checks.orders(apart, 0, 1, 2, 3);
        goes("two exchanges", apart, 0, 2, 2, 2, 2);
        CourierClash circle = Checks.town("01 12 20");
        Checks.orders(circle, 0, 1, 2);
        goes("a circle of three is none", circle, 3, 0, 0, 0, 1);
        CourierClash stays = Checks.town("01 10");
        Checks.orders(stays, 0);
        goes("without an order there is none", stays, 0, 5, 1, 1, 1);
        CourierClash loads = loaded("01 10", 5, 0, 0, 0);
        Checks.orders(loads, 0, 1);
        goes("the load does not matter", loads, 0, 2, 2, 1, 1);
    }

    /** "3 (heavier rival)", ahead of the reasons 4 and 5 */
    private static void heavierRivalIsTheSecond() {
        CourierClash g = loaded("08 18 28", 2, 1, 1, 0);
        Checks.orders(g, 0, 1, 2);
        goes("3 ahead of 4", g, 1, 0, 3, 3, 1);
        CourierClash stays = loaded("03 13", 2, 1, 0, 0);
        Checks.orders(stays, 0, 1);
        goes("3 ahead of 5", stays, 0, 5, 3, 1, 1);
    }

    private static void heavierByOne() {
        CourierClash g = loaded("08 18", 4, 5, 0, 0);
        Checks.orders(g, 0, 1);
        goes("heavier by one", g, 1, 3, 0, 1, 1);
        CourierClash three = loaded("08 18 28 38", 1, 2, 3, 4);
        Checks.orders(three, 0, 1, 2, 3);
        goes("the heaviest of four", three, 1, 3, 3, 3, 0);
        CourierClash elsewhere = loaded("08 17", 1, 2, 0, 0);
        Checks.orders(elsewhere, 0, 1);
        goes("a heavier one elsewhere", elsewhere, 2, 0, 0, 1, 1);
        CourierClash own = loaded("08 18", 1, 2, 0, 0);
        Checks.orders(own, 0);
        goes("a heavier one without an order", own, 1, 0, 1, 1, 1);
        CourierClash mates = loaded("28 38", 0, 0, 1, 2);
        Checks.orders(mates, -1, -1, 0, 1);
        goes("of the same player too", mates, 1, 1, 1, 3, 0);
    }

    /** "4 (rival as heavy)", ahead of the reason 5 */
    private static void rivalAsHeavyIsTheThird() {
        CourierClash stays = Checks.town("03 13");
        Checks.orders(stays, 0, 1);
        goes("4 ahead of 5", stays, 0, 4, 4, 1, 1);
        CourierClash nothing = Checks.town("08 18");
        Checks.orders(nothing, 0, 1);
        goes("both carry nothing", nothing, 0, 4, 4, 1, 1);
        CourierClash five = loaded("08 38", 5, 0, 0, 5);
        Checks.orders(five, 0, -1, -1, 1);
        goes("both carry five", five, 0, 4, 1, 1, 4);
        CourierClash four = Checks.town("08 18 28 38");
        Checks.orders(four, 0, 1, 2, 3);
        goes("all four", four, 0, 4, 4, 4, 4);
        CourierClash van = loaded("08 18", 3, 3, 0, 0);
        van.toggleVan(0);
        Checks.orders(van, 0, 1);
        goes("a van is not heavier", van, 0, 4, 4, 1, 1);
    }

    /** "5 (one who stays)": without an order, or when its move has failed; not when it goes on */
    private static void oneWhoStays() {
        CourierClash none = loaded("01", 5, 0, 0, 0);
        Checks.orders(none, 0);
        goes("without an order, though lighter", none, 0, 5, 1, 1, 1);
        CourierClash failed = Checks.town("01 12");
        Checks.orders(failed, 0, 1);
        goes("its move has failed", failed, 0, 5, 5, 1, 1);
        CourierClash goesOn = Checks.town("01 18");
        Checks.orders(goesOn, 0, 1);
        goes("it goes on", goesOn, 2, 0, 0, 1, 1);
    }

    /** "by what had failed ahead of the round" */
    private static void byWhatHadFailedAheadOfTheRound() {
        CourierClash g = loaded("01 12 28 38", 0, 0, 0, 1);
        Checks.orders(g, 0, 1, 2, 3);
        // 2 fails in the first round, and so 1 in the second, and so 0 in the third
        goes("one after another", g, 1, 5, 5, 3, 0);
        CourierClash rivals = loaded("08 18 28", 1, 1, 0, 0);
        Checks.orders(rivals, 0, 1, 2);
        // that both heavier ones fail in the same round does not help the lighter one
        goes("in one round", rivals, 0, 4, 4, 3, 1);
    }

    /** "There are rounds until none fails any more." */
    private static void roundsUntilNoneFails() {
        CourierClash g = loaded("03 13 21 32", 1, 0, 0, 0);
        Checks.orders(g, 0, 1, 2, 3);
        // a round for each: 1 falls to 0, then 2 to 1, then 3 to 2, then 0 to 3
        goes("four rounds", g, 0, 5, 3, 5, 5);
        CHECKS.due("four failed", g.failedMoves(), 4);
        for (int c = 0; c < 4; c++) {
            CHECKS.due("none moved", g.movesOf(c), 0);
        }
    }

    /** "(The reason 1 stands for no order.)" */
    private static void noOrder() {
        CourierClash g = Checks.town("08");
        goes("nobody", g, 0, 1, 1, 1, 1);
        Checks.orders(g, 0);
        goes("one", g, 1, 0, 1, 1, 1);
        CHECKS.due("no order is no failed move", g.failedMoves(), 0);
    }

    /** "Then all couriers whose moves have not failed go to the ends of their streets, at the same time." */
    private static void atTheSameTime() {
        int[][] circles = {{1, 2, 3, 0}, {3, 0, 1, 2}};
        String[] streets = {"01 12 23 30", "03 10 21 32"};
        for (int i = 0; i < 2; i++) {
            CourierClash g = Checks.town(streets[i]);
            Checks.orders(g, 0, 1, 2, 3);
            goes("all round", g, 4, 0, 0, 0, 0);
            for (int c = 0; c < 4; c++) {
                CHECKS.due("went", g.junctionOf(c), circles[i][c]);
                CHECKS.due("moves", g.movesOf(c), 1);
            }
        }
    }

    /** "each courier, by its number, first delivers all parcels that it carries whose target is its junction" */
    private static void firstDeliversAll() {
        CourierClash g = Checks.town("07");
        for (int target = 6; target <= 8; target++) {
            g.addParcel(0, target, 1, target);
        }
        g.addParcel(0, 7, 2, 1);
        g.addParcel(7, 6, 4, 1);
        g.turn();
        CHECKS.due("carries four", g.loadOf(0), 5);
        g.order(0, 0);
        g.turn();
        CHECKS.due("its target", g.isDelivered(1), true);
        CHECKS.due("all of those", g.isDelivered(3), true);
        CHECKS.due("a lower target", g.isDelivered(0), false);
        CHECKS.due("a higher target", g.isDelivered(2), false);
        CHECKS.due("points", g.pointsOf(0), 8);
        CHECKS.due("then picks up what fits", g.isWaiting(4), true);
        CHECKS.due("load", g.loadOf(0), 2);
        CHECKS.due("a bit more room", g.setCapacity(6), 5);
        g.turn();
        CHECKS.due("fits now", g.loadOf(0), 6);
    }

    /** "then it looks at the parcels that wait at its junction" */
    private static void thenLooksAtParcelsThere() {
        CourierClash g = Checks.town("07");
        g.addParcel(0, 7, 5, 1);
        g.addParcel(7, 0, 5, 1);
        g.addParcel(8, 0, 1, 9);
        g.turn();
        g.order(0, 0);
        g.turn();
        CHECKS.due("delivered first", g.isDelivered(0), true);
        CHECKS.due("and so there is room", g.courierOf(1), 0);
        CHECKS.due("not from another junction", g.isWaiting(2), true);
        CourierClash carried = Checks.town("08 18");
        carried.addParcel(0, 9, 1, 1);
        carried.turn();
        carried.place(0, 5);
        carried.place(1, 0);
        carried.turn();
        CHECKS.due("what is carried waits nowhere", carried.courierOf(0), 0);
    }

    /** The courier 0 with the capacity 5 finds two parcels, of which one fits. */
    private static void takes(String what, int[] first, int[] second, int taken) {
        CourierClash g = Checks.town("");
        g.addParcel(0, 9, first[0], first[1]);
        g.addParcel(0, 9, second[0], second[1]);
        g.turn();
        CHECKS.due(what, g.isWaiting(taken), false);
        CHECKS.due(what + ", not the other", g.isWaiting(1 - taken), true);
    }

    private static void greatestValueFirst() {
        takes("the first is worth more", new int[] {3, 2}, new int[] {3, 1}, 0);
        takes("the second is worth more", new int[] {3, 1}, new int[] {3, 2}, 1);
        takes("the first, though heavier", new int[] {5, 9}, new int[] {1, 8}, 0);
        takes("the second, though heavier", new int[] {1, 8}, new int[] {5, 9}, 1);
    }

    private static void ofSeveralTheLightest() {
        takes("the first is lighter", new int[] {3, 4}, new int[] {4, 4}, 0);
        takes("the second is lighter", new int[] {4, 4}, new int[] {3, 4}, 1);
        int[][] orders = {{2, 3, 4}, {2, 4, 3}, {3, 2, 4}, {3, 4, 2}, {4, 2, 3}, {4, 3, 2}};
        for (int ahead = 0; ahead <= 5; ahead++) {
            for (int[] weights : orders) {
                lightest(ahead, weights);
            }
        }
    }

    /** Three parcels alike but for their weights, with some ahead of them that wait elsewhere; one alone fits. */
    private static void lightest(int ahead, int[] weights) {
        CourierClash g = Checks.town("");
        g.setCapacity(4);
        for (int p = 0; p < ahead; p++) {
            g.addParcel(8, 9, 1 + p, 9);
        }
        for (int weight : weights) {
            g.addParcel(2, 9, weight, 4);
        }
        g.turn();
        for (int i = 0; i < 3; i++) {
            CHECKS.due("the lightest of three, " + weights[i], g.isWaiting(ahead + i), weights[i] != 2);
        }
        CHECKS.due("nothing else", g.loadOf(2), 2);
    }

    private static void ofSeveralTheLowestNumber() {
        takes("the first of two alike", new int[] {3, 4}, new int[] {3, 4}, 0);
        CourierClash g = Checks.town("");
        for (int p = 0; p < 8; p++) {
            g.addParcel(3, 9, 1, 7);
        }
        g.turn();
        for (int p = 0; p < 8; p++) {
            CHECKS.due("the lowest five of eight", g.isWaiting(p), p >= 5);
        }
    }

    /** "and picks up each one with which its load is at most what it can carry" */
    private static void eachOneThatFits() {
        CourierClash g = Checks.town("");
        int[] weights = {2, 1, 4, 1, 3, 1};
        for (int p = 0; p < weights.length; p++) {
            g.addParcel(0, 9, weights[p], 9 - p);
        }
        g.turn();
        boolean[] waits = {false, false, true, false, true, false};
        for (int p = 0; p < weights.length; p++) {
            CHECKS.due("picked up or left " + p, g.isWaiting(p), waits[p]);
        }
        CHECKS.due("just as much", g.loadOf(0), 5);
        g.addParcel(0, 9, 1, 9);
        g.turn();
        CHECKS.due("no more when full", g.isWaiting(6), true);
    }

    /** Those without an order and those whose moves fail deliver and pick up too. */
    private static void alsoThoseWhoStay() {
        CourierClash g = Checks.town("01 23");
        g.addParcel(0, 1, 1, 1);
        g.addParcel(1, 9, 1, 1);
        Checks.orders(g, 0);
        goes("picks up though it fails", g, 0, 5, 1, 1, 1);
        CHECKS.due("failed", g.courierOf(0), 0);
        CHECKS.due("no order", g.courierOf(1), 1);
        g.place(1, 8);
        g.place(0, 1);
        g.place(1, 9);
        goes("delivers where it stays", g, 0, 1, 1, 1, 1);
        CHECKS.due("both delivered", g.whyOver(), 1);
    }

    /** "Then all orders are gone, and the turn is 1 more (0 at first)." */
    private static void ordersGoneAndOneTurnMore() {
        CourierClash g = Checks.town("08 10 21");
        CHECKS.due("0 at first", g.turnsPassed(), 0);
        Checks.orders(g, 0, 1, 2);
        g.toggleStreet(0);
        goes("two fail", g, 0, 1, 5, 5, 1);
        for (int c = 0; c < 4; c++) {
            CHECKS.due("gone", g.hasOrder(c), false);
        }
        CHECKS.due("1", g.turnsPassed(), 1);
        CHECKS.due("again by no orders", g.turn(), 0);
        CHECKS.due("2", g.turnsPassed(), 2);
        CHECKS.due("the latest turn alone", g.outcomeOf(1), 1);
    }
}
