/** Promises 45 to 50: reaching, distances, next streets, the best parcel, why no order. */
public final class ReachTest {
    private static final Class<IndexOutOfBoundsException> INDEX = IndexOutOfBoundsException.class;
    private static final Class<IllegalStateException> STATE = IllegalStateException.class;
    private static final Checks CHECKS = new Checks();

    public static void main(String[] args) {
        reach();
        longestWay();
        othersDoNotMatter();
        nextStreet();
        bestByWay();
        bestByValueAndNumber();
        bestThatSuits();
        whyNoOrder();
        wrongCalls();
        CHECKS.end("ReachTest");
    }

    private static void reached(String what, CourierClash g, int courier, int mask) {
        CHECKS.due("45 " + what, g.reach(courier), mask);
        CHECKS.due("46 " + what, g.reachByJoining(courier), mask);
    }

    private static void reach() {
        CourierClash g = Checks.game(new int[] {0, 1}, new int[] {1, 2, 1}, new int[] {2, 3}, new int[] {5, 0});
        reached("own at least", g, 3, 8);
        reached("by going", g, 0, 15);
        reached("one way", g, 2, 12);
        g.toggleVan(0);
        reached("no narrow ones with a van", g, 0, 3);
        CHECKS.due("47 no narrow ones with a van", g.distance(0, 2), -1);
        reached("narrow ones by bicycle", g, 1, 14);
        g.toggleVan(0);
        g.toggleStreet(2);
        reached("no closed ones", g, 0, 7);
        CHECKS.due("47 no closed ones", g.distance(0, 3), -1);
        g.toggleStreet(2);
        g.place(0, 5);
        reached("from where it is", g, 0, 47);
        CHECKS.due("47 own", g.distance(0, 5), 0);
        CHECKS.due("47 two", g.distance(0, 1), 2);
        CHECKS.due("47 four", g.distance(0, 3), 4);
        CHECKS.due("47 never", g.distance(0, 9), -1);
    }

    private static void longestWay() {
        CourierClash g = Checks.game();
        g.place(0, 9);
        for (int j = 9; j > 0; j--) {
            g.addStreet(j, j - 1, false);
        }
        reached("all", g, 0, 1023);
        for (int j = 0; j < 10; j++) {
            CHECKS.due("47 long", g.distance(0, j), 9 - j);
        }
        CHECKS.due("48 long", g.nextStreet(0, 0), 0);
        g.addStreet(9, 1, false);
        CHECKS.due("47 shorter", g.distance(0, 0), 2);
        CHECKS.due("48 shorter", g.nextStreet(0, 0), 9);
        CHECKS.due("48 the long street still", g.nextStreet(0, 5), 0);
    }

    private static void othersDoNotMatter() {
        CourierClash g = Checks.game(new int[] {0, 1}, new int[] {1, 2});
        reached("through others", g, 0, 7);
        CHECKS.due("47 through others", g.distance(0, 2), 2);
    }

    private static void nextStreet() {
        CourierClash g = Checks.game(new int[] {0, 8, 1}, new int[] {0, 7}, new int[] {8, 9}, new int[] {7, 9},
                new int[] {0, 6}, new int[] {6, 9});
        CHECKS.due("48 lowest", g.nextStreet(0, 9), 0);
        g.toggleVan(0);
        CHECKS.due("48 lowest that it can take", g.nextStreet(0, 9), 1);
        g.toggleStreet(3);
        CHECKS.due("48 lowest open", g.nextStreet(0, 9), 4);
        CHECKS.due("48 one street", g.nextStreet(0, 7), 1);
        CHECKS.refused("48 own", g, STATE, () -> g.nextStreet(0, 0));
        CHECKS.refused("48 not reached", g, STATE, () -> g.nextStreet(0, 8));
        g.setLimit(1);
        g.turn();
        CHECKS.due("48 when over", g.nextStreet(0, 9), 4);
    }

    private static void bestByWay() {
        CourierClash g = Checks.game(new int[] {0, 5}, new int[] {5, 6}, new int[] {6, 7}, new int[] {7, 8}, new int[] {0, 9});
        g.addParcel(5, 8, 1, 9);
        CHECKS.due("49 the only one", g.bestParcel(0), 0);
        g.addParcel(7, 8, 1, 9);
        CHECKS.due("49 as long", g.bestParcel(0), 0);
        g.addParcel(6, 7, 1, 1);
        CHECKS.due("49 shorter", g.bestParcel(0), 2);
        g.addParcel(0, 9, 1, 1);
        CHECKS.due("49 shortest", g.bestParcel(0), 3);
        g.turn();
        CHECKS.due("49 only those that wait", g.bestParcel(0), 2);
    }

    private static void bestByValueAndNumber() {
        CourierClash g = Checks.game(new int[] {0, 5}, new int[] {5, 6}, new int[] {5, 7});
        g.addParcel(5, 6, 3, 4);
        g.addParcel(5, 7, 2, 4);
        CHECKS.due("49 lowest number", g.bestParcel(0), 0);
        g.addParcel(5, 7, 5, 5);
        CHECKS.due("49 greatest value", g.bestParcel(0), 2);
        g.addParcel(5, 6, 1, 3);
        CHECKS.due("49 still", g.bestParcel(0), 2);
        g.setCapacity(4);
        CHECKS.due("49 not too heavy", g.bestParcel(0), 0);
        g.setCapacity(3);
        CHECKS.due("49 just as heavy", g.bestParcel(0), 0);
        g.toggleVan(0);
        CHECKS.due("49 with a van", g.bestParcel(0), 2);
    }

    private static void bestThatSuits() {
        CourierClash g = Checks.game(new int[] {0, 5, 1}, new int[] {5, 6});
        g.addParcel(5, 4, 1, 9);
        CHECKS.refused("49 target not reached", g, STATE, () -> g.bestParcel(0));
        g.addParcel(6, 5, 1, 9);
        CHECKS.refused("49 from there not back", g, STATE, () -> g.bestParcel(0));
        g.addParcel(5, 6, 5, 1);
        CHECKS.due("49 suits", g.bestParcel(0), 2);
        CHECKS.refused("49 not reached", g, STATE, () -> g.bestParcel(1));
        g.toggleVan(0);
        CHECKS.refused("49 too narrow", g, STATE, () -> g.bestParcel(0));
        CourierClash h = Checks.game(new int[] {0, 5}, new int[] {0, 6});
        h.addParcel(0, 5, 5, 1);
        h.turn();
        h.addParcel(0, 6, 5, 1);
        CHECKS.due("49 the parcel alone", h.bestParcel(0), 1);
    }

    private static void whyNoOrder() {
        CourierClash g = Checks.game(new int[] {0, 5, 1}, new int[] {0, 6}, new int[] {1, 5, 1});
        CHECKS.due("50 can", g.whyNoOrder(0, 0), 0);
        CHECKS.due("50 elsewhere", g.whyNoOrder(0, 2), 2);
        g.toggleVan(0);
        CHECKS.due("50 narrow", g.whyNoOrder(0, 0), 4);
        CHECKS.due("50 wide", g.whyNoOrder(0, 1), 0);
        g.toggleStreet(0);
        g.toggleStreet(2);
        CHECKS.due("50 closed ahead of narrow", g.whyNoOrder(0, 0), 3);
        CHECKS.due("50 elsewhere ahead of closed", g.whyNoOrder(0, 2), 2);
        g.setLimit(1);
        g.turn();
        CHECKS.due("50 over ahead of all", g.whyNoOrder(0, 2), 1);
        CHECKS.due("50 over", g.whyNoOrder(0, 1), 1);
        CHECKS.refused("50 no street", g, INDEX, () -> g.whyNoOrder(0, 3));
        CHECKS.refused("50 no street below", g, INDEX, () -> g.whyNoOrder(0, -1));
        CHECKS.refused("50 no courier", g, INDEX, () -> g.whyNoOrder(4, 0));
        CHECKS.refused("50 no courier below", g, INDEX, () -> g.whyNoOrder(-1, 0));
    }

    private static void wrongCalls() {
        CourierClash g = Checks.game(new int[] {0, 5});
        for (int bad : new int[] {-1, 4, Integer.MIN_VALUE, Integer.MAX_VALUE}) {
            CHECKS.refused("45 courier", g, INDEX, () -> g.reach(bad));
            CHECKS.refused("46 courier", g, INDEX, () -> g.reachByJoining(bad));
            CHECKS.refused("47 courier", g, INDEX, () -> g.distance(bad, 0));
            CHECKS.refused("48 courier", g, INDEX, () -> g.nextStreet(bad, 5));
            CHECKS.refused("49 courier", g, INDEX, () -> g.bestParcel(bad));
        }
        for (int bad : new int[] {-1, 10, 32, Integer.MIN_VALUE, Integer.MAX_VALUE}) {
            CHECKS.refused("47 junction", g, INDEX, () -> g.distance(0, bad));
            CHECKS.refused("48 junction", g, INDEX, () -> g.nextStreet(0, bad));
        }
    }
}
