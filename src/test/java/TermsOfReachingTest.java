/** The terms, sentence by sentence: "Reaching". */
public final class TermsOfReachingTest {
    private static final Class<IllegalStateException> STATE = IllegalStateException.class;
    private static final Checks CHECKS = new Checks();

    public static void main(String[] args) {
        itsJunction();
        theEndsOfStreetsThere();
        noNarrowOnesWithAVan();
        otherCouriersDoNotMatter();
        leastNumberOfStreets();
        lowestStreetOfSuchAWay();
        nextStreetOtherThanItsOwn();
        aParcelThatWaits();
        bothMustBeReached();
        theParcelAlone();
        theWay();
        shortestWay();
        ofSeveralTheGreatestValue();
        ofSeveralTheLowestNumber();
        eachNumber();
        CHECKS.end("TermsOfReachingTest");
    }

    private static void reached(String what, CourierClash g, int courier, int... junctions) {
        int mask = 0;
        for (int j : junctions) {
            mask |= 1 << j;
        }
        CHECKS.due("45 " + what, g.reach(courier), mask);
        CHECKS.due("46 " + what, g.reachByJoining(courier), mask);
        for (int j = 0; j <= 9; j++) {
            CHECKS.due("47 " + what + ", distance to " + j, g.distance(courier, j) >= 0, (mask >> j & 1) == 1);
        }
    }

    /** "A courier can reach its junction" */
    private static void itsJunction() {
        CourierClash g = Checks.town("");
        for (int c = 0; c < 4; c++) {
            reached("no streets", g, c, c);
            CHECKS.due("47 own", g.distance(c, c), 0);
        }
        CourierClash circle = Checks.town("01 10");
        CHECKS.due("47 own, though a way leads back", circle.distance(0, 0), 0);
    }

    /** "and from each junction that it can reach the ends of all open streets that begin there" */
    private static void theEndsOfStreetsThere() {
        CourierClash g = Checks.town("98 87 76 65 54 43 32 21 10");
        reached("all behind one another", g, 3, 3, 2, 1, 0);
        reached("not against the street", g, 0, 0);
        g.place(3, 9);
        reached("all ten", g, 3, 0, 1, 2, 3, 4, 5, 6, 7, 8, 9);
        g.toggleStreet(4);
        reached("not behind a closed one", g, 3, 9, 8, 7, 6, 5);
        g.toggleStreet(4);
        reached("open again", g, 3, 0, 1, 2, 3, 4, 5, 6, 7, 8, 9);
        CourierClash up = Checks.town("01 12 23 34 45 56 67 78 89");
        reached("upwards", up, 0, 0, 1, 2, 3, 4, 5, 6, 7, 8, 9);
        CourierClash star = Checks.town("94 95 96 97 49 69");
        star.place(2, 9);
        reached("more than one from a junction", star, 2, 9, 4, 5, 6, 7);
        CourierClash full = Checks.fullTown();
        reached("no street begins there", full, 3, 3);
        full.place(3, 7);
        reached("by the last streets", full, 3, 0, 1, 2, 3, 4, 5, 7);
        full.toggleStreet(23);
        reached("not by the last street", full, 3, 0, 1, 2, 3, 4, 7);
        full.place(3, 9);
        reached("by full ones", full, 3, 0, 1, 2, 3, 4, 5, 6, 7, 8, 9);
    }

    /** "(but no narrow ones with a van)" */
    private static void noNarrowOnesWithAVan() {
        CourierClash g = Checks.town("01 12n 23 05n 58");
        reached("by bicycle", g, 0, 0, 1, 2, 3, 5, 8);
        g.toggleVan(1);
        reached("another's van does not matter", g, 0, 0, 1, 2, 3, 5, 8);
        reached("its own does", g, 1, 1);
        g.toggleVan(0);
        reached("with a van", g, 0, 0, 1);
        CHECKS.due("48 with a van", g.nextStreet(0, 1), 0);
        CHECKS.refused("48 narrow", g, STATE, () -> g.nextStreet(0, 5));
    }

    /** "other couriers do not matter" */
    private static void otherCouriersDoNotMatter() {
        CourierClash g = Checks.town("01 12 23 34");
        reached("through three others", g, 0, 0, 1, 2, 3, 4);
        CHECKS.due("47 through others", g.distance(0, 4), 4);
        CHECKS.due("48 through others", g.nextStreet(0, 4), 0);
        g.addParcel(1, 2, 1, 1);
        CHECKS.due("49 where others are", g.bestParcel(0), 0);
    }

    /** "The distance to a junction is the least number of such streets, one behind the other." */
    private static void leastNumberOfStreets() {
        CourierClash g = Checks.town("01 12 23 34 45 56 67 78 89");
        for (int j = 0; j <= 9; j++) {
            CHECKS.due("47 one behind the other", g.distance(0, j), j);
        }
        CHECKS.due("47 not back", g.distance(1, 0), -1);
        g.addStreet(0, 8, true);
        CHECKS.due("47 less", g.distance(0, 9), 2);
        CHECKS.due("47 as before", g.distance(0, 7), 7);
        g.addStreet(0, 9, false);
        CHECKS.due("47 one", g.distance(0, 9), 1);
        g.toggleStreet(10);
        CHECKS.due("47 not by a closed one", g.distance(0, 9), 2);
        g.toggleVan(0);
        CHECKS.due("47 not by a narrow one", g.distance(0, 9), 9);
        CHECKS.due("48 the long way", g.nextStreet(0, 9), 0);
    }

    /** "the lowest one of those with which a way of this length begins" */
    private static void lowestStreetOfSuchAWay() {
        CourierClash g = Checks.town("05 56 69 07 79 08 89");
        CHECKS.due("48 not a longer way, though lower", g.nextStreet(0, 9), 3);
        g.toggleStreet(3);
        CHECKS.due("48 the next one", g.nextStreet(0, 9), 5);
        g.toggleStreet(6);
        CHECKS.due("48 the long way now", g.nextStreet(0, 9), 0);
        g.toggleStreet(3);
        CHECKS.due("48 open again", g.nextStreet(0, 9), 3);
        CourierClash late = Checks.town("59 69 06 05");
        CHECKS.due("48 lowest of those that begin there", late.nextStreet(0, 9), 2);
        CourierClash full = Checks.fullTown();
        full.place(0, 7);
        CHECKS.due("48 the last street", full.nextStreet(0, Checks.fullTownTo(23)), 23);
    }

    /** "to a junction other than its own, that it can reach" */
    private static void nextStreetOtherThanItsOwn() {
        CourierClash g = Checks.town("01 10 59");
        CHECKS.refused("48 own, though a way leads back", g, STATE, () -> g.nextStreet(0, 0));
        CHECKS.refused("48 not reached", g, STATE, () -> g.nextStreet(0, 9));
        CHECKS.due("48 reached", g.nextStreet(0, 1), 0);
        g.place(1, 5);
        g.place(0, 1);
        CHECKS.due("48 the old one", g.nextStreet(0, 0), 1);
        CHECKS.refused("48 own now", g, STATE, () -> g.nextStreet(0, 1));
    }

    /** "A parcel that waits suits a courier" */
    private static void aParcelThatWaits() {
        CourierClash g = Checks.town("09 19");
        CHECKS.refused("49 no parcels", g, STATE, () -> g.bestParcel(0));
        g.addParcel(0, 9, 1, 1);
        CHECKS.due("49 where it is itself", g.bestParcel(0), 0);
        CHECKS.refused("49 not for another", g, STATE, () -> g.bestParcel(1));
        g.turn();
        CHECKS.refused("49 carried", g, STATE, () -> g.bestParcel(0));
        g.order(0, 0);
        g.turn();
        CHECKS.refused("49 delivered", g, STATE, () -> g.bestParcel(0));
    }

    /** "if it can reach the junction where it waits, and from there the target" */
    private static void bothMustBeReached() {
        CourierClash g = Checks.town("08 89n 07n 75");
        g.addParcel(7, 5, 1, 1);
        g.addParcel(8, 9, 1, 1);
        g.addParcel(8, 0, 1, 9);
        g.addParcel(6, 0, 1, 9);
        g.addParcel(0, 6, 1, 9);
        CHECKS.due("49 by bicycle", g.bestParcel(0), 0);
        g.toggleStreet(3);
        CHECKS.due("49 the target not reached from there", g.bestParcel(0), 1);
        g.toggleStreet(3);
        g.toggleStreet(2);
        CHECKS.due("49 it is not reached", g.bestParcel(0), 1);
        g.toggleStreet(2);
        g.toggleVan(0);
        CHECKS.refused("49 with a van none", g, STATE, () -> g.bestParcel(0));
        CourierClash back = Checks.town("08 09");
        back.addParcel(8, 9, 1, 1);
        CHECKS.refused("49 the target reached, but not from there", back, STATE, () -> back.bestParcel(0));
    }

    /** "and the parcel alone is not heavier than what the courier can carry" */
    private static void theParcelAlone() {
        for (int weight = 1; weight <= 5; weight++) {
            CourierClash g = Checks.town("08 89");
            g.addParcel(8, 9, weight, 1);
            g.setCapacity(weight);
            CHECKS.due("49 just as heavy", g.bestParcel(0), 0);
            if (weight > 1) {
                g.setCapacity(weight - 1);
                CHECKS.refused("49 heavier by one", g, STATE, () -> g.bestParcel(0));
            }
            g.setCapacity((weight + 1) / 2);
            g.toggleVan(0);
            CHECKS.due("49 with a van twice that", g.bestParcel(0), 0);
            if (weight > 2) {
                g.setCapacity((weight - 1) / 2);
                CHECKS.refused("49 heavier than twice that", g, STATE, () -> g.bestParcel(0));
            }
        }
        CourierClash loaded = Checks.town("08 89");
        loaded.addParcel(0, 9, 5, 1);
        loaded.turn();
        loaded.addParcel(8, 9, 5, 1);
        CHECKS.due("49 what it carries does not matter", loaded.bestParcel(0), 1);
    }

    /** "Its way is the distance to the parcel, and from there to the target, together." */
    private static void theWay() {
        String streets = "05 56 67 78 89 98 87 76 65 50";
        CourierClash near = Checks.town(streets);
        near.addParcel(5, 9, 1, 9);
        near.addParcel(7, 8, 1, 1);
        CHECKS.due("49 1 + 4 against 3 + 1", near.bestParcel(0), 1);
        CourierClash far = Checks.town(streets);
        far.addParcel(8, 9, 1, 9);
        far.addParcel(5, 7, 1, 1);
        CHECKS.due("49 4 + 1 against 1 + 2", far.bestParcel(0), 1);
        CourierClash back = Checks.town(streets);
        back.addParcel(6, 0, 1, 1);
        back.addParcel(6, 9, 1, 1);
        back.addParcel(6, 5, 1, 1);
        CHECKS.due("49 2 + 2 against 2 + 3 and 2 + 1", back.bestParcel(0), 2);
        CourierClash longest = Checks.town("01 12 23 34 45 56 67 78 89 90");
        longest.addParcel(9, 8, 1, 1);
        CHECKS.due("49 9 + 9", longest.bestParcel(0), 0);
        longest.addParcel(9, 7, 1, 1);
        CHECKS.due("49 9 + 8", longest.bestParcel(0), 1);
    }

    private static int best(int[] first, int[] second) {
        CourierClash g = Checks.town("05 56 67 08 80");
        g.addParcel(first[0], first[1], 1, first[2]);
        g.addParcel(second[0], second[1], 1, second[2]);
        return g.bestParcel(0);
    }

    private static void shortestWay() {
        int[] two = {5, 6, 1};
        int[] three = {5, 7, 9};
        CHECKS.due("49 the first is shorter", best(two, three), 0);
        CHECKS.due("49 the second is shorter", best(three, two), 1);
        CHECKS.due("49 from where it is itself", best(two, new int[] {0, 8, 1}), 1);
    }

    private static void ofSeveralTheGreatestValue() {
        int[] cheap = {5, 6, 8};
        int[] dear = {8, 0, 9};
        CHECKS.due("49 the first is worth more", best(dear, cheap), 0);
        CHECKS.due("49 the second is worth more", best(cheap, dear), 1);
    }

    private static void ofSeveralTheLowestNumber() {
        CHECKS.due("49 alike", best(new int[] {5, 6, 9}, new int[] {8, 0, 9}), 0);
        CourierClash g = Checks.town("05 56");
        for (int p = 0; p < 8; p++) {
            g.addParcel(5, 6, 5 - p % 5, 4);
        }
        CHECKS.due("49 the weight does not matter", g.bestParcel(0), 0);
        g.place(3, 5);
        g.turn();
        CHECKS.due("49 the lowest that waits", g.bestParcel(0), 0);
        CHECKS.due("49 lighter ones were picked up", g.courierOf(4), 3);
    }

    /** Each of eight parcels can be the best one, by its way, its value, or for it alone suits; for each courier. */
    private static void eachNumber() {
        for (int pair = 0; pair < 32; pair++) {
            int c = pair / 8;
            int best = pair % 8;
            CourierClash way = Checks.town(c + "5 56 67");
            CourierClash value = Checks.town(c + "5 56");
            CourierClash weight = Checks.town(c + "5 56");
            CourierClash reached = Checks.town(c + "5 56");
            weight.setCapacity(3);
            for (int p = 0; p < 8; p++) {
                way.addParcel(5, p == best ? 6 : 7, 1, p == best ? 1 : 9);
                value.addParcel(5, 6, 1, p == best ? 7 : 6);
                weight.addParcel(5, 6, p == best ? 3 : 4, 5);
                reached.addParcel(5, p == best ? 6 : 7, 1, 5);
            }
            CHECKS.due("49 by its way", way.bestParcel(c), best);
            CHECKS.due("49 by its value", value.bestParcel(c), best);
            CHECKS.due("49 by its weight", weight.bestParcel(c), best);
            CHECKS.due("49 by its target", reached.bestParcel(c), best);
        }
    }
}
