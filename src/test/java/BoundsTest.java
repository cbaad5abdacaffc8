import java.util.function.IntFunction;

/** Promises 1 to 54: the last number inside each bound, and the first ones outside it. */
public final class BoundsTest {
    private static final Class<IndexOutOfBoundsException> INDEX = IndexOutOfBoundsException.class;
    private static final Class<IllegalArgumentException> ARGUMENT = IllegalArgumentException.class;
    private static final Class<IllegalStateException> STATE = IllegalStateException.class;
    private static final Checks CHECKS = new Checks();

    public static void main(String[] args) {
        aNewObject();
        couriers();
        junctions();
        streetsOfNone();
        streetsOfOne();
        streetsOfAll();
        parcels();
        players();
        loadThatWouldBeTooMuch();
        loadOfSomeCourier();
        returnsOfSettings();
        movesAndOutcomes();
        lookingAtParcels();
        whyNoOrder();
        wouldGo();
        meanLoad();
        deliveredShare();
        digestOfFullAndEmpty();
        fiveHundredTwelveCalls();
        CHECKS.end("BoundsTest");
    }

    /** Refused outside first to last, and answered at both of them. */
    private static void bound(String what, CourierClash g, int first, int last, IntFunction<Object> call) {
        for (int bad : new int[] {first - 1, last + 1, last + 2, 32 + first, 256, Integer.MIN_VALUE, Integer.MAX_VALUE}) {
            CHECKS.refused(what + " of " + bad, g, INDEX, () -> call.apply(bad));
        }
        for (int good : new int[] {first, last}) {
            if (first <= last) {
                boolean outside = INDEX.getSimpleName().equals(Checks.answer(() -> call.apply(good)));
                CHECKS.due(what + " of " + good + " is outside", outside, false);
            }
        }
    }

    /** Promise 1: "a game as told above, without streets and parcels, without a snapshot, with an empty buffer" */
    private static void aNewObject() {
        CourierClash g = new CourierClash();
        CHECKS.due("1 no streets", g.streets(), 0);
        CHECKS.due("1 no parcels", g.parcels(), 0);
        CHECKS.refused("1 no snapshot", g, STATE, g::restore);
        CHECKS.refused("1 nothing saved", g, STATE, g::undo);
        CHECKS.due("1 empty buffer", g.clearBuffer(), 0);
        CHECKS.due("14 empty buffer", g.firstError(), 0);
        CHECKS.refused("15 empty buffer", g, ARGUMENT, g::play);
        CHECKS.refused("17 no stop", g, STATE, g::stoppedPart);
        CHECKS.due("38 no points", g.pointsOf(0) + g.pointsOf(1) + g.pointsByParcels(0) + g.pointsByParcels(1), 0);
        CHECKS.due("52 none", g.meanLoad(), 0.0f);
        CHECKS.due("53 none", g.deliveredShare(), 0.0);
        for (int c = 0; c < 4; c++) {
            int courier = c;
            CHECKS.refused("30 no order", g, STATE, () -> g.orderOf(courier));
            CHECKS.refused("49 no parcel", g, STATE, () -> g.bestParcel(courier));
            CHECKS.due("32 without a turn", g.outcomeOf(c), 1);
            CHECKS.due("51 no order", g.wouldGo(c), 1);
            CHECKS.due("10 had none", g.takeBack(c), false);
        }
        CourierClash turned = new CourierClash();
        CHECKS.due("11 nobody", turned.turn(), 0);
    }

    /** "if there is no such courier": 0 to 3 */
    private static void couriers() {
        CourierClash g = Checks.town("09 39 93");
        bound("4 place", g, 0, 3, c -> g.place(c, c));
        bound("5 toggleVan", g, 0, 3, g::toggleVan);
        bound("9 order", g, 0, 3, c -> g.order(c, c / 3));
        bound("10 takeBack", g, 0, 3, g::takeBack);
        bound("26 junctionOf", g, 0, 3, g::junctionOf);
        bound("27 hasVan", g, 0, 3, g::hasVan);
        bound("28 loadOf", g, 0, 3, g::loadOf);
        bound("29 hasOrder", g, 0, 3, g::hasOrder);
        bound("30 orderOf", g, 0, 3, g::orderOf);
        bound("31 movesOf", g, 0, 3, g::movesOf);
        bound("32 outcomeOf", g, 0, 3, g::outcomeOf);
        bound("45 reach", g, 0, 3, g::reach);
        bound("46 reachByJoining", g, 0, 3, g::reachByJoining);
        bound("47 distance", g, 0, 3, c -> g.distance(c, 9));
        bound("48 nextStreet", g, 0, 3, c -> g.nextStreet(c, 9));
        g.addParcel(9, 3, 1, 1);
        bound("49 bestParcel", g, 0, 3, g::bestParcel);
        bound("50 whyNoOrder", g, 0, 3, c -> g.whyNoOrder(c, 0));
        bound("51 wouldGo", g, 0, 3, g::wouldGo);
    }

    /** "if there is no such junction": 0 to 9 */
    private static void junctions() {
        CourierClash g = Checks.town("19 90");
        bound("2 from", g, 0, 9, j -> g.addStreet(j, 5, false));
        bound("2 to", g, 0, 9, j -> g.addStreet(5, j, false));
        g.place(0, 8);
        bound("4 place", g, 0, 9, j -> g.place(0, j));
        bound("7 junction", g, 0, 9, j -> g.addParcel(j, 5, 1, 1));
        bound("7 target", g, 0, 9, j -> g.addParcel(5, j, 1, 1));
        bound("47 distance", g, 0, 9, j -> g.distance(1, j));
        bound("48 nextStreet", g, 0, 9, j -> g.nextStreet(1, j));
    }

    private static void streetsUpTo(CourierClash g, int last) {
        bound("3 toggleStreet", g, 0, last, g::toggleStreet);
        bound("9 order", g, 0, last, s -> g.order(0, s));
        bound("23 fromOf", g, 0, last, g::fromOf);
        bound("24 toOf", g, 0, last, g::toOf);
        bound("25 isOpen", g, 0, last, g::isOpen);
        bound("50 whyNoOrder", g, 0, last, s -> g.whyNoOrder(0, s));
    }

    /** "if there is no such street" */
    private static void streetsOfNone() {
        streetsUpTo(Checks.town(""), -1);
    }

    private static void streetsOfOne() {
        streetsUpTo(Checks.town("01"), 0);
        CourierClash undone = Checks.town("01 02");
        undone.undo();
        streetsUpTo(undone, 0);
        CourierClash kept = Checks.town("01");
        kept.keep();
        kept.addStreet(0, 2, false);
        kept.restore();
        streetsUpTo(kept, 0);
    }

    private static void streetsOfAll() {
        streetsUpTo(Checks.fullTown(), 23);
    }

    /** "if there is no such parcel" */
    private static void parcels() {
        for (int count = 0; count <= 8; count++) {
            parcelsUpTo(townWithParcels(count), count - 1);
        }
        CourierClash undone = townWithParcels(8);
        undone.undo();
        parcelsUpTo(undone, 6);
    }

    private static CourierClash townWithParcels(int count) {
        CourierClash g = Checks.town("");
        for (int p = 0; p < count; p++) {
            g.addParcel(p, 9, 1, 1);
        }
        return g;
    }

    private static void parcelsUpTo(CourierClash g, int last) {
        bound("34 isWaiting", g, 0, last, g::isWaiting);
        bound("35 isDelivered", g, 0, last, g::isDelivered);
        bound("36 courierOf", g, 0, last, g::courierOf);
        bound("37 placeOf", g, 0, last, g::placeOf);
        CHECKS.due("33 parcels", g.parcels(), last + 1);
    }

    /** "if there is no such player": 0 or 1 */
    private static void players() {
        CourierClash g = Checks.town("");
        bound("38 pointsOf", g, 0, 1, g::pointsOf);
        bound("39 pointsByParcels", g, 0, 1, g::pointsByParcels);
    }

    /** Promise 5: "if its load would be more than what it can carry then" */
    private static void loadThatWouldBeTooMuch() {
        CourierClash g = Checks.town("");
        g.toggleVan(0);
        g.addParcel(0, 9, 5, 1);
        g.addParcel(0, 9, 1, 1);
        g.turn();
        CHECKS.due("28 six", g.loadOf(0), 6);
        CHECKS.refused("5 one more than five", g, STATE, () -> g.toggleVan(0));
        CHECKS.due("5 others are free to", g.toggleVan(1), true);
        g.setCapacity(6);
        CHECKS.due("5 just six", g.toggleVan(0), false);
        CHECKS.due("5 a van again", g.toggleVan(0), true);
        g.setCapacity(5);
        g.place(0, 9);
        g.turn();
        CHECKS.due("5 nothing carried any more", g.toggleVan(0), false);
    }

    /** Promise 6: "if the load of some courier would be more than what it can carry then" */
    private static void loadOfSomeCourier() {
        for (int c = 0; c < 4; c++) {
            CourierClash g = Checks.town("");
            g.addParcel(c, 9, 3, 1);
            g.turn();
            CHECKS.refused("6 one less than the load", g, STATE, () -> g.setCapacity(2));
            CHECKS.due("6 just the load", g.setCapacity(3), 5);
            g.toggleVan(c);
            CHECKS.refused("6 twice one is less than the load", g, STATE, () -> g.setCapacity(1));
            CHECKS.due("6 twice two is enough", g.setCapacity(2), 3);
            g.place(c, 9);
            g.turn();
            CHECKS.due("6 nothing carried any more", g.setCapacity(1), 2);
        }
        for (int j = 0; j <= 9; j++) {
            CourierClash waiting = Checks.town("");
            waiting.addParcel(j, (j + 1) % 10, 5, 1);
            CHECKS.due("6 what waits is no load", waiting.setCapacity(1), 5);
        }
    }

    private static void returnsOfSettings() {
        CourierClash g = Checks.town("");
        CHECKS.due("6 previous", g.setCapacity(5), 5);
        CHECKS.due("8 previous", g.setLimit(40), 40);
        CHECKS.due("6 the lowest", g.setCapacity(1), 5);
        CHECKS.due("6 the greatest", g.setCapacity(9), 1);
        CHECKS.due("8 the lowest", g.setLimit(1), 40);
        CHECKS.due("8 the greatest", g.setLimit(60), 1);
        g.undo();
        g.undo();
        g.undo();
        CHECKS.due("18 capacity", g.setCapacity(2), 1);
        CHECKS.due("18 limit", g.setLimit(2), 40);
    }

    /** Promises 31, 32 and 41: what they tell stays whatever is done, up to the next turn. */
    private static void movesAndOutcomes() {
        CourierClash g = Checks.town("09 90 12");
        Checks.orders(g, 0, 2);
        CHECKS.due("32 not by an order", g.outcomeOf(0), 1);
        CHECKS.due("11 one", g.turn(), 1);
        g.order(0, 1);
        g.takeBack(0);
        g.place(0, 0);
        g.order(0, 0);
        g.order(1, 2);
        g.takeBack(1);
        g.place(1, 8);
        g.toggleVan(1);
        g.addParcel(5, 6, 1, 1);
        Checks.played(g, "t0;s0;s1");
        g.setLimit(1);
        CHECKS.due("32 moved", g.outcomeOf(0), 0);
        CHECKS.due("32 failed", g.outcomeOf(1), 5);
        CHECKS.due("32 no order", g.outcomeOf(2), 1);
        CHECKS.due("31 moved", g.movesOf(0), 1);
        CHECKS.due("31 failed", g.movesOf(1), 0);
        CHECKS.due("41 failed", g.failedMoves(), 1);
        g.setLimit(2);
        g.turn();
        CHECKS.due("32 the latest", g.outcomeOf(0), 1);
        CHECKS.due("31 so far", g.movesOf(0), 1);
        CHECKS.due("41 so far", g.failedMoves(), 1);
    }

    /** Promise 37: the courier's junction while carried, the target for ever when delivered. */
    private static void lookingAtParcels() {
        CourierClash g = Checks.town("");
        g.addParcel(0, 9, 1, 1);
        CHECKS.due("37 waits", g.placeOf(0), 0);
        CHECKS.refused("36 waits", g, STATE, () -> g.courierOf(0));
        g.place(0, 8);
        CHECKS.due("37 waits there still", g.placeOf(0), 0);
        g.place(0, 0);
        g.turn();
        g.place(0, 9);
        CHECKS.due("37 at its target, carried", g.placeOf(0), 9);
        CHECKS.due("35 carried", g.isDelivered(0), false);
        g.turn();
        g.place(0, 0);
        CHECKS.due("37 at its target, delivered", g.placeOf(0), 9);
        CHECKS.due("36 delivered by", g.courierOf(0), 0);
    }

    /** Promise 50: "the first that holds" */
    private static void whyNoOrder() {
        CourierClash g = Checks.town("09n 08 19n");
        g.toggleVan(0);
        CHECKS.due("50 narrow", g.whyNoOrder(0, 0), 4);
        CHECKS.due("50 2 ahead of 4", g.whyNoOrder(0, 2), 2);
        g.toggleStreet(0);
        CHECKS.due("50 3 ahead of 4", g.whyNoOrder(0, 0), 3);
        g.toggleStreet(1);
        CHECKS.due("50 closed and wide", g.whyNoOrder(0, 1), 3);
        g.toggleStreet(2);
        CHECKS.due("50 2 ahead of 3 and 4", g.whyNoOrder(0, 2), 2);
        g.setLimit(1);
        g.turn();
        for (int s = 0; s < 3; s++) {
            CHECKS.due("50 1 ahead of all", g.whyNoOrder(0, s), 1);
        }
        g.setLimit(2);
        CHECKS.due("50 goes on", g.whyNoOrder(0, 0), 3);
        g.toggleStreet(1);
        CHECKS.due("50 can", g.whyNoOrder(0, 1), 0);
        g.order(0, 1);
        CHECKS.due("50 can still, with an order", g.whyNoOrder(0, 1), 0);
    }

    /** Promise 51: "whether the game is over or not" */
    private static void wouldGo() {
        CourierClash g = Checks.town("01 10 28 38");
        g.addParcel(3, 9, 1, 1);
        g.turn();
        Checks.orders(g, 0, 1, 2, 3);
        g.setLimit(1);
        int[] due = {2, 2, 3, 0};
        for (int c = 0; c < 4; c++) {
            CHECKS.due("51 when over", g.wouldGo(c), due[c]);
            CHECKS.due("32 is another matter", g.outcomeOf(c), 1);
        }
        g.takeBack(3);
        g.takeBack(0);
        CHECKS.due("51 by the orders of now", g.wouldGo(2), 0);
        CHECKS.due("51 one who stays", g.wouldGo(1), 5);
        CHECKS.due("51 none", g.wouldGo(0), 1);
        CHECKS.due("41 nothing has failed", g.failedMoves(), 0);
        CHECKS.due("40 nor turned", g.turnsPassed(), 1);
    }

    /** Promise 52: "the loads of all couriers, together, as a float, divided by 4" */
    private static void meanLoad() {
        CourierClash g = Checks.town("");
        g.setCapacity(9);
        g.toggleVan(3);
        for (int p = 0; p < 8; p++) {
            g.addParcel(p < 3 ? p : 3, 9, p < 3 ? 5 : 3, 1);
        }
        g.turn();
        CHECKS.due("28 van", g.loadOf(3), 15);
        CHECKS.due("52 thirty", g.meanLoad(), 7.5f);
        CourierClash most = Checks.town("");
        most.setCapacity(9);
        for (int c = 0; c < 4; c++) {
            most.toggleVan(c);
            most.addParcel(c, 9, 5, 1);
            most.addParcel(c, 9, 5, 1);
        }
        most.turn();
        CHECKS.due("52 the most", most.meanLoad(), 10.0f);
        most.place(0, 9);
        most.turn();
        CHECKS.due("52 not the delivered ones", most.meanLoad(), 7.5f);
        CourierClash least = Checks.town("");
        least.addParcel(2, 9, 1, 1);
        least.turn();
        CHECKS.due("52 the least", least.meanLoad(), 0.25f);
    }

    /** Promise 53: "the parcels delivered, as a double, divided by all; 0.0 without any" */
    private static void deliveredShare() {
        CourierClash g = Checks.town("");
        CHECKS.due("53 without any", g.deliveredShare(), 0.0);
        g.addParcel(0, 9, 1, 1);
        CHECKS.due("53 none", g.deliveredShare(), 0.0);
        g.turn();
        CHECKS.due("53 carried", g.deliveredShare(), 0.0);
        g.place(0, 9);
        g.turn();
        CHECKS.due("53 all", g.deliveredShare(), 1.0);
        for (int all = 2; all <= 8; all++) {
            g.addParcel(0, 9, 5, 1);
            CHECKS.due("53 one of " + all, g.deliveredShare(), 1.0 / all);
        }
    }

    /** Promise 54: by hand, for the least and the most that a game can hold. */
    private static void digestOfFullAndEmpty() {
        CourierClash g = new CourierClash();
        long empty = g.digest();
        Checks.type(g, "!~");
        CHECKS.due("54 two characters", g.digest(), (31L * (31L * (empty + 2) + 33) + 126));
        g.clearBuffer();
        CHECKS.due("54 empty again", g.digest(), empty);
        Checks.type(g, "~".repeat(60));
        long full = empty + 60;
        for (int i = 0; i < 60; i++) {
            full = 31L * full + 126;
        }
        CHECKS.due("54 sixty characters", g.digest(), full);
        CourierClash town = Checks.fullTown();
        CourierClash again = Checks.fullTown();
        CHECKS.due("54 alike", town.digest(), again.digest());
        town.toggleStreet(23);
        again.toggleStreet(22);
        CHECKS.due("54 not alike", town.digest() == again.digest(), false);
    }

    /** "An object is used for at most 512 calls after it has been made": up to the last of them all is as due. */
    private static void fiveHundredTwelveCalls() {
        CourierClash turned = new CourierClash();
        for (int call = 1; call < 511; call += 2) {
            CHECKS.due("11 nobody", turned.turn(), 0);
            CHECKS.due("18 none left", turned.undo(), 0);
        }
        CHECKS.due("40 all undone", turned.turnsPassed(), 0);
        CHECKS.due("43 all undone", turned.positionsNoted(), 1);
        CourierClash restored = new CourierClash();
        CHECKS.due("19 no turns", restored.keep(), 0);
        for (int call = 2; call < 511; call += 2) {
            CHECKS.due("11 nobody", restored.turn(), 0);
            CHECKS.due("20 the turns of then", restored.restore(), 0);
        }
        CHECKS.due("42 noted once, though so many turns were made", restored.timesNoted(), 1);
        CourierClash typed = new CourierClash();
        for (int call = 1; call < 512; call++) {
            CHECKS.answered("12 typed", () -> typed.append('r'), call <= 60 ? (Object) call : STATE.getSimpleName());
        }
        CHECKS.due("13 sixty", typed.clearBuffer(), 60);
        CourierClash toggled = new CourierClash();
        toggled.addStreet(0, 9, false);
        for (int call = 2; call < 512; call++) {
            CHECKS.due("3 open or closed", toggled.toggleStreet(0), call % 2 == 1);
        }
        CHECKS.due("21 five", toggled.savedStates(), 5);
        CourierClash placed = new CourierClash();
        placed.setLimit(60);
        for (int call = 2; call < 512; call += 2) {
            CHECKS.due("4 from where", placed.place(3, call % 4 == 2 ? 9 : 3), call % 4 == 2 ? 3 : 9);
            CHECKS.answered("11 sixty turns", placed::turn, call <= 120 ? (Object) 0 : STATE.getSimpleName());
        }
        CHECKS.due("40 sixty", placed.turnsPassed(), 60);
    }
}
