/** Promises 1 to 8 and 22 to 30: a new game, streets, couriers, parcels, the limit. */
public final class SettingsTest {
    private static final Class<IndexOutOfBoundsException> INDEX = IndexOutOfBoundsException.class;
    private static final Class<IllegalArgumentException> ARGUMENT = IllegalArgumentException.class;
    private static final Class<IllegalStateException> STATE = IllegalStateException.class;
    private static final Checks CHECKS = new Checks();

    public static void main(String[] args) {
        newGame();
        addStreet();
        fullOfStreets();
        toggleStreet();
        place();
        placeAndNotes();
        toggleVan();
        setCapacity();
        addParcel();
        setLimit();
        looksAtCouriers();
        CHECKS.end("SettingsTest");
    }

    private static void newGame() {
        CourierClash g = new CourierClash();
        CHECKS.due("1 streets", g.streets(), 0);
        CHECKS.due("1 parcels", g.parcels(), 0);
        CHECKS.due("1 turns", g.turnsPassed(), 0);
        CHECKS.due("1 failed", g.failedMoves(), 0);
        CHECKS.due("1 noted", g.timesNoted(), 1);
        CHECKS.due("1 positions", g.positionsNoted(), 1);
        CHECKS.due("1 over", g.whyOver(), 0);
        CHECKS.due("1 saved", g.savedStates(), 0);
        CHECKS.due("1 capacity", g.setCapacity(9), 5);
        CHECKS.due("1 limit", g.setLimit(1), 40);
        CHECKS.due("1 buffer", g.clearBuffer(), 0);
        CHECKS.due("1 stopped", g.hasStopped(), false);
        for (int c = 0; c < 4; c++) {
            CHECKS.due("1 at", g.junctionOf(c), c);
            CHECKS.due("1 van", g.hasVan(c), false);
            CHECKS.due("1 load", g.loadOf(c), 0);
            CHECKS.due("1 order", g.hasOrder(c), false);
            CHECKS.due("1 moves", g.movesOf(c), 0);
            CHECKS.due("1 outcome", g.outcomeOf(c), 1);
        }
        CHECKS.refused("1 snapshot", g, STATE, g::restore);
        CourierClash other = new CourierClash();
        other.addStreet(0, 1, false);
        CHECKS.due("1 objects are apart", g.streets(), 0);
    }

    private static void addStreet() {
        CourierClash g = new CourierClash();
        CHECKS.due("2 first", g.addStreet(0, 9, false), 0);
        CHECKS.due("2 back", g.addStreet(9, 0, true), 1);
        CHECKS.due("22 two", g.streets(), 2);
        CHECKS.due("23 from", g.fromOf(1), 9);
        CHECKS.due("24 to", g.toOf(1), 0);
        CHECKS.due("23 from 0", g.fromOf(0), 0);
        CHECKS.due("24 to 0", g.toOf(0), 9);
        CHECKS.due("25 open", g.isOpen(0), true);
        CHECKS.due("2 saves", g.savedStates(), 2);
        CHECKS.refused("2 from low", g, INDEX, () -> g.addStreet(-1, 0, false));
        CHECKS.refused("2 from high", g, INDEX, () -> g.addStreet(10, 0, false));
        CHECKS.refused("2 to low", g, INDEX, () -> g.addStreet(0, -1, false));
        CHECKS.refused("2 to high", g, INDEX, () -> g.addStreet(0, 10, false));
        CHECKS.refused("2 to far", g, INDEX, () -> g.addStreet(0, Integer.MAX_VALUE, false));
        CHECKS.refused("2 index ahead of same", g, INDEX, () -> g.addStreet(10, 10, false));
        CHECKS.refused("2 same", g, ARGUMENT, () -> g.addStreet(4, 4, false));
        CHECKS.refused("2 twice", g, STATE, () -> g.addStreet(0, 9, true));
        for (int bad : new int[] {-1, 2, 24, 32, Integer.MIN_VALUE, Integer.MAX_VALUE}) {
            CHECKS.refused("23 no street", g, INDEX, () -> g.fromOf(bad));
            CHECKS.refused("24 no street", g, INDEX, () -> g.toOf(bad));
            CHECKS.refused("25 no street", g, INDEX, () -> g.isOpen(bad));
            CHECKS.refused("3 no street", g, INDEX, () -> g.toggleStreet(bad));
        }
    }

    private static void fullOfStreets() {
        CourierClash g = new CourierClash();
        for (int s = 0; s < 24; s++) {
            int from = s / 9;
            int to = s % 9 < from ? s % 9 : s % 9 + 1;
            CHECKS.due("2 number", g.addStreet(from, to, s % 2 == 1), s);
        }
        CHECKS.due("22 full", g.streets(), 24);
        CHECKS.refused("2 full", g, STATE, () -> g.addStreet(9, 0, false));
        CHECKS.refused("2 same ahead of full", g, ARGUMENT, () -> g.addStreet(9, 9, false));
        CHECKS.refused("2 index ahead of full", g, INDEX, () -> g.addStreet(9, 10, false));
        CHECKS.due("2 last", g.fromOf(23), 2);
        CHECKS.due("2 last to", g.toOf(23), 6);
    }

    private static void toggleStreet() {
        CourierClash g = Checks.game(new int[] {0, 5}, new int[] {1, 5});
        g.order(0, 0);
        g.order(1, 1);
        CHECKS.due("3 closes", g.toggleStreet(0), false);
        CHECKS.due("3 closed", g.isOpen(0), false);
        CHECKS.due("3 other open", g.isOpen(1), true);
        CHECKS.due("3 order goes", g.hasOrder(0), false);
        CHECKS.due("3 other order stays", g.hasOrder(1), true);
        CHECKS.due("3 opens", g.toggleStreet(0), true);
        CHECKS.due("3 open", g.isOpen(0), true);
        CHECKS.due("3 order stays gone", g.hasOrder(0), false);
        g.undo();
        g.undo();
        CHECKS.due("3 undo", g.hasOrder(0), true);
        CHECKS.due("3 undo opens", g.isOpen(0), true);
    }

    private static void place() {
        CourierClash g = Checks.game(new int[] {0, 1}, new int[] {7, 6});
        g.order(0, 0);
        CHECKS.due("4 from where", g.place(0, 7), 0);
        CHECKS.due("4 where", g.junctionOf(0), 7);
        CHECKS.due("4 order goes", g.hasOrder(0), false);
        CHECKS.due("4 saves", g.savedStates(), 4);
        g.order(0, 1);
        CHECKS.due("4 own junction", g.place(0, 7), 7);
        CHECKS.due("4 order goes there too", g.hasOrder(0), false);
        CHECKS.refused("4 another one", g, STATE, () -> g.place(0, 3));
        CHECKS.refused("4 another one above", g, STATE, () -> g.place(3, 7));
        CHECKS.refused("4 courier low", g, INDEX, () -> g.place(-1, 3));
        CHECKS.refused("4 courier high", g, INDEX, () -> g.place(4, 9));
        CHECKS.refused("4 junction low", g, INDEX, () -> g.place(0, -1));
        CHECKS.refused("4 junction high", g, INDEX, () -> g.place(0, 10));
        CHECKS.due("4 left free", g.place(3, 0), 3);
    }

    private static void placeAndNotes() {
        CourierClash g = Checks.game();
        g.addParcel(0, 9, 3, 4);
        g.turn();
        CHECKS.due("4 two positions", g.positionsNoted(), 2);
        g.turn();
        CHECKS.due("4 twice", g.timesNoted(), 2);
        g.place(0, 8);
        CHECKS.due("4 notes dropped", g.positionsNoted(), 1);
        CHECKS.due("4 noted once", g.timesNoted(), 1);
        CHECKS.due("4 carries along", g.placeOf(0), 8);
        g.place(0, 9);
        CHECKS.due("4 no delivery by placing", g.isDelivered(0), false);
        g.turn();
        CHECKS.due("4 delivery by the turn", g.isDelivered(0), true);
        CHECKS.due("4 turns stay", g.turnsPassed(), 3);
    }

    private static void toggleVan() {
        CourierClash g = Checks.game(new int[] {0, 1, 1}, new int[] {1, 2}, new int[] {2, 3, 1});
        g.order(0, 0);
        g.order(1, 1);
        g.order(2, 2);
        CHECKS.due("5 gives", g.toggleVan(0), true);
        CHECKS.due("5 has", g.hasVan(0), true);
        CHECKS.due("5 narrow order goes", g.hasOrder(0), false);
        CHECKS.due("5 gives 1", g.toggleVan(1), true);
        CHECKS.due("5 wide order stays", g.hasOrder(1), true);
        CHECKS.due("5 others stay", g.hasOrder(2), true);
        CHECKS.due("5 takes", g.toggleVan(1), false);
        CHECKS.due("5 has not", g.hasVan(1), false);
        CHECKS.due("5 order stays", g.hasOrder(1), true);
        CHECKS.due("5 saves", g.savedStates(), 5);
        CHECKS.refused("5 low", g, INDEX, () -> g.toggleVan(-1));
        CHECKS.refused("5 high", g, INDEX, () -> g.toggleVan(4));
        CourierClash h = Checks.game();
        h.addParcel(3, 0, 5, 1);
        h.addParcel(3, 0, 1, 1);
        h.toggleVan(3);
        h.turn();
        CHECKS.due("5 van carries more", h.loadOf(3), 6);
        CHECKS.refused("5 too heavy", h, STATE, () -> h.toggleVan(3));
        h.setCapacity(6);
        CHECKS.due("5 just as heavy", h.toggleVan(3), false);
    }

    private static void setCapacity() {
        CourierClash g = Checks.game();
        CHECKS.due("6 previous", g.setCapacity(9), 5);
        CHECKS.due("6 previous 9", g.setCapacity(1), 9);
        CHECKS.due("6 saves", g.savedStates(), 2);
        CHECKS.refused("6 low", g, ARGUMENT, () -> g.setCapacity(0));
        CHECKS.refused("6 high", g, ARGUMENT, () -> g.setCapacity(10));
        g.setCapacity(5);
        g.addParcel(2, 0, 5, 1);
        g.addParcel(2, 0, 3, 1);
        g.toggleVan(2);
        g.turn();
        CHECKS.due("6 load", g.loadOf(2), 8);
        CHECKS.refused("6 some load", g, STATE, () -> g.setCapacity(3));
        CHECKS.refused("6 argument ahead of load", g, ARGUMENT, () -> g.setCapacity(0));
        CHECKS.due("6 van twice", g.setCapacity(4), 5);
        g.addParcel(0, 9, 5, 1);
        g.turn();
        CHECKS.due("6 not picked up", g.isWaiting(2), true);
        g.setCapacity(5);
        g.turn();
        CHECKS.due("6 picked up", g.loadOf(0), 5);
        CHECKS.refused("6 bicycle once", g, STATE, () -> g.setCapacity(4));
    }

    private static void addParcel() {
        CourierClash g = Checks.game();
        g.turn();
        g.turn();
        CHECKS.due("7 over", g.whyOver(), 2);
        CHECKS.due("7 first", g.addParcel(0, 9, 5, 9), 0);
        CHECKS.due("7 over no more", g.whyOver(), 0);
        CHECKS.due("7 notes dropped", g.timesNoted(), 1);
        CHECKS.due("7 positions", g.positionsNoted(), 1);
        CHECKS.due("7 second", g.addParcel(9, 0, 1, 1), 1);
        CHECKS.due("7 waits", g.isWaiting(0), true);
        CHECKS.due("7 where", g.placeOf(1), 9);
        CHECKS.due("7 no pick up ahead of a turn", g.loadOf(0), 0);
        CHECKS.due("7 saves", g.savedStates(), 4);
        CHECKS.refused("7 junction low", g, INDEX, () -> g.addParcel(-1, 0, 1, 1));
        CHECKS.refused("7 junction high", g, INDEX, () -> g.addParcel(10, 0, 1, 1));
        CHECKS.refused("7 target low", g, INDEX, () -> g.addParcel(0, -1, 1, 1));
        CHECKS.refused("7 target high", g, INDEX, () -> g.addParcel(0, 10, 1, 1));
        CHECKS.refused("7 index ahead", g, INDEX, () -> g.addParcel(10, 10, 0, 0));
        CHECKS.refused("7 same", g, ARGUMENT, () -> g.addParcel(3, 3, 1, 1));
        CHECKS.refused("7 weight 0", g, ARGUMENT, () -> g.addParcel(3, 4, 0, 1));
        CHECKS.refused("7 weight 6", g, ARGUMENT, () -> g.addParcel(3, 4, 6, 1));
        CHECKS.refused("7 value 0", g, ARGUMENT, () -> g.addParcel(3, 4, 1, 0));
        CHECKS.refused("7 value 10", g, ARGUMENT, () -> g.addParcel(3, 4, 1, 10));
        for (int p = 2; p < 8; p++) {
            CHECKS.due("7 number", g.addParcel(0, 9, 5, 9), p);
        }
        CHECKS.refused("7 full", g, STATE, () -> g.addParcel(0, 9, 5, 9));
        CHECKS.refused("7 argument ahead of full", g, ARGUMENT, () -> g.addParcel(0, 0, 5, 9));
        CHECKS.refused("7 index ahead of full", g, INDEX, () -> g.addParcel(0, 10, 5, 9));
        CHECKS.due("33 eight", g.parcels(), 8);
    }

    private static void setLimit() {
        CourierClash g = Checks.game(new int[] {0, 9});
        CHECKS.due("8 previous", g.setLimit(60), 40);
        CHECKS.due("8 previous 60", g.setLimit(1), 60);
        CHECKS.due("8 saves", g.savedStates(), 3);
        CHECKS.refused("8 low", g, ARGUMENT, () -> g.setLimit(0));
        CHECKS.refused("8 high", g, ARGUMENT, () -> g.setLimit(61));
        g.turn();
        CHECKS.due("8 over", g.whyOver(), 3);
        g.setLimit(2);
        CHECKS.due("8 goes on", g.whyOver(), 0);
        g.order(0, 0);
        g.setLimit(1);
        CHECKS.due("8 order stays", g.hasOrder(0), true);
        CHECKS.refused("8 no turn", g, STATE, g::turn);
    }

    private static void looksAtCouriers() {
        CourierClash g = Checks.game(new int[] {0, 9});
        for (int bad : new int[] {-1, 4, Integer.MIN_VALUE, Integer.MAX_VALUE}) {
            CHECKS.refused("26 no courier", g, INDEX, () -> g.junctionOf(bad));
            CHECKS.refused("27 no courier", g, INDEX, () -> g.hasVan(bad));
            CHECKS.refused("28 no courier", g, INDEX, () -> g.loadOf(bad));
            CHECKS.refused("29 no courier", g, INDEX, () -> g.hasOrder(bad));
            CHECKS.refused("30 no courier", g, INDEX, () -> g.orderOf(bad));
            CHECKS.refused("31 no courier", g, INDEX, () -> g.movesOf(bad));
            CHECKS.refused("32 no courier", g, INDEX, () -> g.outcomeOf(bad));
        }
        CHECKS.refused("30 no order", g, STATE, () -> g.orderOf(0));
    }
}
