/** The terms, sentence by sentence: "Junctions, streets", "Couriers" and "Parcels". */
public final class TermsOfTownTest {
    private static final Class<IndexOutOfBoundsException> INDEX = IndexOutOfBoundsException.class;
    private static final Class<IllegalArgumentException> ARGUMENT = IllegalArgumentException.class;
    private static final Class<IllegalStateException> STATE = IllegalStateException.class;
    private static final Checks CHECKS = new Checks();

    public static void main(String[] args) {
        tenJunctions();
        noEleventhJunction();
        atMostTwentyFourStreets();
        toAnotherJunction();
        wideOrNarrow();
        openAtFirstOrClosed();
        noTwoStreetsAlike();
        couriersOfPlayers();
        couriersAtFirst();
        noTwoCouriersAtOneJunction();
        noNarrowStreetsWithAVan();
        whatACourierCanCarry();
        capacityOneToNine();
        theLoad();
        atMostEightParcels();
        weightsAndValues();
        waitsOrCarriedOrDelivered();
        pointsAsItsValue();
        CHECKS.end("TermsOfTownTest");
    }

    /** "There are 10 junctions, 0 to 9" */
    private static void tenJunctions() {
        CourierClash g = new CourierClash();
        for (int j = 4; j <= 9; j++) {
            CHECKS.due("place at " + j, g.place(3, j), j == 4 ? 3 : j - 1);
            CHECKS.due("at " + j, g.junctionOf(3), j);
            CHECKS.due("reach bit " + j, g.reach(3), 1 << j);
            CHECKS.due("joined bit " + j, g.reachByJoining(3), 1 << j);
        }
        for (int j = 0; j <= 9; j++) {
            int other = (j + 1) % 10;
            CHECKS.due("street from " + j, g.addStreet(j, other, false), j);
            CHECKS.due("from " + j, g.fromOf(j), j);
            CHECKS.due("to " + other, g.toOf(j), other);
        }
        for (int j = 0; j <= 9; j++) {
            CHECKS.due("distance to " + j, g.distance(0, j), j);
        }
        CHECKS.due("all ten", g.reach(0), 1023);
        for (int j = 0; j <= 9; j += 9) {
            CHECKS.due("parcel at " + j, g.placeOf(g.addParcel(j, 9 - j, 1, 1)), j);
        }
    }

    private static void noEleventhJunction() {
        CourierClash g = Checks.town("09 90");
        for (int bad : new int[] {-1, 10, Integer.MIN_VALUE, Integer.MAX_VALUE}) {
            CHECKS.refused("street from " + bad, g, INDEX, () -> g.addStreet(bad, 5, false));
            CHECKS.refused("street to " + bad, g, INDEX, () -> g.addStreet(5, bad, true));
            CHECKS.refused("place at " + bad, g, INDEX, () -> g.place(0, bad));
            CHECKS.refused("parcel at " + bad, g, INDEX, () -> g.addParcel(bad, 5, 1, 1));
            CHECKS.refused("parcel to " + bad, g, INDEX, () -> g.addParcel(5, bad, 1, 1));
            CHECKS.refused("distance to " + bad, g, INDEX, () -> g.distance(0, bad));
            CHECKS.refused("next street to " + bad, g, INDEX, () -> g.nextStreet(0, bad));
        }
    }

    /** "at most 24 streets, numbered from 0 in the order in which they came" */
    private static void atMostTwentyFourStreets() {
        CourierClash g = new CourierClash();
        for (int s = 0; s < 24; s++) {
            CHECKS.due("streets before " + s, g.streets(), s);
            CHECKS.refused("no street yet " + s, g, INDEX, () -> g.fromOf(g.streets()));
            CHECKS.due("number", g.addStreet(Checks.fullTownFrom(s), Checks.fullTownTo(s), false), s);
        }
        CHECKS.due("full", g.streets(), 24);
        CHECKS.refused("a 25th one", g, STATE, () -> g.addStreet(0, 1, false));
        CHECKS.refused("no street 24", g, INDEX, () -> g.toOf(24));
        for (int s = 0; s < 24; s++) {
            CHECKS.due("from of " + s, g.fromOf(s), Checks.fullTownFrom(s));
            CHECKS.due("to of " + s, g.toOf(s), Checks.fullTownTo(s));
        }
        CHECKS.due("undo makes room", g.undo(), 4);
        CHECKS.due("the 24th again", g.addStreet(0, 1, false), 23);
    }

    /** "A street leads from a junction to another one" */
    private static void toAnotherJunction() {
        CourierClash g = new CourierClash();
        for (int j = 0; j <= 9; j++) {
            int same = j;
            CHECKS.refused("to itself " + j, g, ARGUMENT, () -> g.addStreet(same, same, false));
        }
    }

    /** "is wide or narrow" */
    private static void wideOrNarrow() {
        CourierClash g = Checks.fullTown();
        g.place(0, 5);
        for (int s = 0; s < 24; s++) {
            g.place(3, Checks.fullTownFrom(s));
            CHECKS.due("by bicycle " + s, g.whyNoOrder(3, s), 0);
            g.toggleVan(3);
            CHECKS.due("with a van " + s, g.whyNoOrder(3, s), s % 2 == 1 ? 4 : 0);
            g.toggleVan(3);
        }
    }

    /** "is open (at first) or closed" */
    private static void openAtFirstOrClosed() {
        for (int s = 0; s < 24; s++) {
            CourierClash g = Checks.fullTown();
            CHECKS.due("open at first " + s, g.isOpen(s), true);
            CHECKS.due("closed then " + s, g.toggleStreet(s), false);
            for (int other = 0; other < 24; other++) {
                CHECKS.due("only it is closed " + s, g.isOpen(other), other != s);
            }
            CHECKS.due("open again " + s, g.toggleStreet(s), true);
            CHECKS.due("is open again " + s, g.isOpen(s), true);
        }
    }

    /** "No two streets have the same beginning and the same end." */
    private static void noTwoStreetsAlike() {
        CourierClash g = Checks.town("56 78n");
        CHECKS.refused("as wide", g, STATE, () -> g.addStreet(5, 6, false));
        CHECKS.refused("narrow now", g, STATE, () -> g.addStreet(5, 6, true));
        CHECKS.refused("as narrow", g, STATE, () -> g.addStreet(7, 8, true));
        CHECKS.refused("wide now", g, STATE, () -> g.addStreet(7, 8, false));
        g.toggleStreet(0);
        CHECKS.refused("closed", g, STATE, () -> g.addStreet(5, 6, false));
        CHECKS.due("the other way", g.addStreet(6, 5, false), 2);
        CHECKS.due("the same beginning", g.addStreet(5, 8, false), 3);
        CHECKS.due("the same end", g.addStreet(7, 6, false), 4);
        g.undo();
        CHECKS.due("not there any more", g.addStreet(7, 6, true), 4);
    }

    /** "The player 0 has the couriers 0 and 1, the player 1 the couriers 2 and 3." */
    private static void couriersOfPlayers() {
        int[][] points = {{6, 0}, {6, 0}, {0, 6}, {0, 6}};
        for (int c = 0; c < 4; c++) {
            CourierClash g = Checks.town("");
            g.addParcel(c, 9, 1, 6);
            g.turn();
            g.place(c, 9);
            g.turn();
            for (int player = 0; player < 2; player++) {
                CHECKS.due("points by " + c, g.pointsOf(player), points[c][player]);
                CHECKS.due("by parcels by " + c, g.pointsByParcels(player), points[c][player]);
            }
        }
    }

    /** "The courier c is at first at the junction c, on a bicycle." */
    private static void couriersAtFirst() {
        CourierClash g = new CourierClash();
        for (int c = 0; c < 4; c++) {
            CHECKS.due("at", g.junctionOf(c), c);
            CHECKS.due("on a bicycle", g.hasVan(c), false);
        }
        for (int bad : new int[] {-1, 4}) {
            CHECKS.refused("no courier " + bad, g, INDEX, () -> g.junctionOf(bad));
        }
    }

    /** "No two couriers are at the same junction." */
    private static void noTwoCouriersAtOneJunction() {
        CourierClash g = Checks.town("01 21 32");
        for (int c = 0; c < 4; c++) {
            for (int other = 0; other < 4; other++) {
                int courier = c;
                int there = other;
                if (c == other) {
                    CHECKS.due("its own", g.place(c, c), c);
                } else {
                    CHECKS.refused("another is there", g, STATE, () -> g.place(courier, there));
                }
            }
        }
        Checks.orders(g, 0, -1, 1, 2);
        CHECKS.due("none moves", g.turn(), 0);
        for (int c = 0; c < 4; c++) {
            CHECKS.due("each where it was", g.junctionOf(c), c);
        }
        g.place(3, 9);
        CHECKS.due("left by the other", g.place(0, 3), 0);
    }

    /** "A courier with a van cannot take narrow streets." */
    private static void noNarrowStreetsWithAVan() {
        CourierClash g = Checks.town("09n 08");
        CHECKS.due("by bicycle", g.order(0, 0), 9);
        g.toggleVan(0);
        CHECKS.refused("with a van", g, STATE, () -> g.order(0, 0));
        CHECKS.due("a wide one with a van", g.order(0, 1), 8);
        g.toggleVan(0);
        CHECKS.due("by bicycle again", g.order(0, 0), 9);
        CHECKS.due("goes", g.turn(), 1);
    }

    /** "What a courier can carry: by bicycle the capacity (..), with a van twice that." */
    private static void whatACourierCanCarry() {
        for (int capacity = 1; capacity <= 9; capacity++) {
            for (int times = 1; times <= 2; times++) {
                CourierClash just = loaded(capacity, times, capacity * times);
                CHECKS.due("just as much, " + capacity, just.loadOf(1), capacity * times);
                CHECKS.due("one more does not fit, " + capacity, just.isWaiting(just.parcels() - 1), true);
                CourierClash less = loaded(capacity, times, capacity * times - 1);
                CHECKS.due("one less and one, " + capacity, less.loadOf(1), capacity * times);
                CHECKS.due("the last one fits, " + capacity, less.isWaiting(less.parcels() - 1), false);
            }
        }
    }

    /** The courier 1 finds parcels of that weight together, and then one of the weight 1. */
    private static CourierClash loaded(int capacity, int times, int weight) {
        CourierClash g = Checks.town("");
        g.setCapacity(capacity);
        if (times == 2) {
            g.toggleVan(1);
        }
        for (int rest = weight; rest > 0; rest -= Math.min(5, rest)) {
            g.addParcel(1, 9, Math.min(5, rest), 9);
        }
        g.addParcel(1, 9, 1, 1);
        g.turn();
        return g;
    }

    /** "the capacity (a setting, 1 to 9, at first 5)" */
    private static void capacityOneToNine() {
        CourierClash g = new CourierClash();
        int before = 5;
        for (int capacity = 1; capacity <= 9; capacity++) {
            CHECKS.due("previous", g.setCapacity(capacity), before);
            before = capacity;
        }
        for (int bad : new int[] {0, 10, -1, Integer.MIN_VALUE, Integer.MAX_VALUE}) {
            CHECKS.refused("capacity " + bad, g, ARGUMENT, () -> g.setCapacity(bad));
        }
        CHECKS.due("refused ones change nothing", g.setCapacity(5), 9);
    }

    /** "Its load is the weight of all parcels that it carries." */
    private static void theLoad() {
        CourierClash g = Checks.town("09");
        g.addParcel(0, 9, 1, 9);
        g.addParcel(0, 8, 2, 8);
        g.addParcel(0, 8, 2, 7);
        g.addParcel(0, 8, 5, 1);
        g.addParcel(1, 8, 4, 1);
        CHECKS.due("what waits weighs nothing", g.loadOf(0), 0);
        g.turn();
        CHECKS.due("three together", g.loadOf(0), 5);
        CHECKS.due("not what others carry", g.loadOf(1), 4);
        CHECKS.due("none", g.loadOf(2), 0);
        g.order(0, 0);
        g.turn();
        CHECKS.due("not what is delivered", g.loadOf(0), 4);
    }

    /** "There are at most 8 parcels, numbered from 0 in the order in which they came." */
    private static void atMostEightParcels() {
        CourierClash g = new CourierClash();
        for (int p = 0; p < 8; p++) {
            CHECKS.refused("no parcel yet", g, INDEX, () -> g.isWaiting(g.parcels()));
            CHECKS.due("number", g.addParcel(p, 9, 1, 1), p);
            CHECKS.due("parcels", g.parcels(), p + 1);
        }
        CHECKS.refused("a ninth one", g, STATE, () -> g.addParcel(0, 9, 1, 1));
        CHECKS.refused("no parcel 8", g, INDEX, () -> g.isWaiting(8));
        for (int p = 0; p < 8; p++) {
            CHECKS.due("in their order", g.placeOf(p), p);
        }
        g.turn();
        CHECKS.refused("a ninth one though some are carried", g, STATE, () -> g.addParcel(0, 9, 1, 1));
        g.undo();
        g.undo();
        CHECKS.due("undo makes room", g.addParcel(8, 9, 1, 1), 7);
    }

    /** "a weight, 1 to 5, a value, 1 to 9, and a target, a junction" */
    private static void weightsAndValues() {
        CourierClash g = Checks.town("");
        for (int weight = 1; weight <= 5; weight++) {
            g.addParcel(0, 9, weight, 1);
            g.turn();
            CHECKS.due("weight", g.loadOf(0), weight);
            g.undo();
            g.undo();
        }
        for (int bad : new int[] {0, 6, -1, Integer.MIN_VALUE, Integer.MAX_VALUE}) {
            CHECKS.refused("weight " + bad, g, ARGUMENT, () -> g.addParcel(0, 9, bad, 1));
        }
        for (int bad : new int[] {0, 10, -1, Integer.MIN_VALUE, Integer.MAX_VALUE}) {
            CHECKS.refused("value " + bad, g, ARGUMENT, () -> g.addParcel(0, 9, 1, bad));
        }
        CHECKS.refused("at its target", g, ARGUMENT, () -> g.addParcel(9, 9, 1, 1));
    }

    /** "It waits at a junction, is carried by one courier, or is delivered by one courier" */
    private static void waitsOrCarriedOrDelivered() {
        CourierClash g = Checks.town("39");
        g.addParcel(3, 9, 1, 1);
        g.addParcel(4, 9, 1, 1);
        is("at first", g, true, false, "IllegalStateException", 3);
        g.turn();
        is("carried", g, false, false, 3, 3);
        g.place(3, 5);
        is("carried along", g, false, false, 3, 5);
        g.place(3, 3);
        g.order(3, 0);
        g.turn();
        is("delivered", g, false, true, 3, 9);
        g.place(3, 5);
        g.turn();
        is("delivered for ever", g, false, true, 3, 9);
        CHECKS.due("the other one waits", g.isWaiting(1), true);
    }

    private static void is(String what, CourierClash g, boolean waits, boolean delivered, Object courier, int place) {
        CHECKS.due("34 " + what, g.isWaiting(0), waits);
        CHECKS.due("35 " + what, g.isDelivered(0), delivered);
        CHECKS.answered("36 " + what, () -> g.courierOf(0), courier);
        CHECKS.due("37 " + what, g.placeOf(0), place);
    }

    /** "(the player of the courier has as many points more as its value)" */
    private static void pointsAsItsValue() {
        for (int value = 1; value <= 9; value++) {
            CourierClash g = Checks.town("09 29");
            g.addParcel(0, 9, 1, value);
            g.addParcel(2, 9, 1, value);
            g.addParcel(0, 8, 1, 1);
            g.turn();
            g.order(0, 0);
            g.turn();
            CHECKS.due("first", g.pointsOf(0), value);
            CHECKS.due("not yet", g.pointsOf(1), 0);
            g.place(0, 8);
            g.order(2, 1);
            g.turn();
            CHECKS.due("more", g.pointsOf(0), value + 1);
            CHECKS.due("the other", g.pointsOf(1), value);
        }
    }
}
