import java.util.function.Consumer;

/** Promises 18 to 21, and what "undoable" means for each call that is marked so. */
public final class UndoTest {
    private static final Class<IllegalStateException> STATE = IllegalStateException.class;
    private static final Checks CHECKS = new Checks();

    public static void main(String[] args) {
        nothingSaved();
        fiveStates();
        eachUndoable();
        notUndoable();
        snapshot();
        snapshotAndNotes();
        undoOfRestore();
        otherStreetsAndParcels();
        allStreetsBack();
        allParcelsBack();
        allCouriersBack();
        undoOfTurns();
        sixtyTurnsWithoutDrop();
        CHECKS.end("UndoTest");
    }

    private static CourierClash busyGame() {
        CourierClash g = Checks.game(new int[] {0, 9}, new int[] {9, 0}, new int[] {1, 8, 1}, new int[] {8, 1});
        g.addParcel(0, 9, 2, 3);
        g.addParcel(2, 8, 2, 3);
        g.turn();
        g.order(0, 0);
        g.turn();
        Checks.played(g, "s0;o1>0");
        g.order(0, 1);
        g.order(1, 2);
        return g;
    }

    private static void nothingSaved() {
        CourierClash g = Checks.game();
        CHECKS.due("21 none", g.savedStates(), 0);
        CHECKS.refused("18 none", g, STATE, g::undo);
        g.setLimit(3);
        CHECKS.due("21 one", g.savedStates(), 1);
        CHECKS.due("18 left", g.undo(), 0);
        CHECKS.refused("18 none again", g, STATE, g::undo);
        CHECKS.due("18 restored", g.setLimit(1), 40);
    }

    private static void fiveStates() {
        CourierClash g = Checks.game();
        long[] digests = new long[9];
        for (int i = 0; i < 9; i++) {
            digests[i] = g.digest();
            g.addStreet(0, i + 1, false);
            CHECKS.due("21 five at most", g.savedStates(), Math.min(5, i + 1));
        }
        for (int left = 4; left >= 0; left--) {
            CHECKS.due("18 left", g.undo(), left);
            CHECKS.due("18 streets", g.streets(), 4 + left);
        }
        CHECKS.refused("18 the oldest are dropped", g, STATE, g::undo);
        CHECKS.due("18 digest but for what is saved", g.digest() == digests[4], false);
        g.addStreet(5, 6, true);
        CHECKS.due("18 goes on", g.fromOf(4), 5);
        CHECKS.due("18 goes on, saved", g.savedStates(), 1);
    }

    private static void eachUndoable() {
        undoable("2", g -> g.addStreet(5, 6, true));
        undoable("3", g -> g.toggleStreet(1));
        undoable("4", g -> g.place(0, 7));
        undoable("4 nowhere", g -> g.place(3, 3));
        undoable("5", g -> g.toggleVan(1));
        undoable("6", g -> g.setCapacity(5));
        undoable("6 other", g -> g.setCapacity(3));
        undoable("7", g -> g.addParcel(4, 5, 1, 1));
        undoable("8", g -> g.setLimit(40));
        undoable("8 other", g -> g.setLimit(2));
        undoable("9", g -> g.order(0, 1));
        undoable("10", g -> g.takeBack(0));
        undoable("10 none", g -> g.takeBack(3));
        undoable("11", CourierClash::turn);
        undoable("15", g -> Checks.played(g, "t0;r;r;r;r"));
        undoable("20", CourierClash::restore);
    }

    private static void undoable(String what, Consumer<CourierClash> call) {
        CourierClash g = busyGame();
        g.keep();
        g.setLimit(41);
        g.undo();
        int saved = g.savedStates();
        CHECKS.due(what + " room to save", saved, 4);
        long before = g.digest();
        call.accept(g);
        CHECKS.due(what + " saves one", g.savedStates(), saved + 1);
        CHECKS.due(what + " undo left", g.undo(), saved);
        CHECKS.due(what + " undo brings all back", g.digest(), before);
    }

    private static void notUndoable() {
        CourierClash g = busyGame();
        int saved = g.savedStates();
        g.keep();
        Checks.type(g, "x");
        g.firstError();
        Checks.answer(g::play);
        g.clearBuffer();
        Checks.answer(() -> g.addStreet(0, 0, false));
        Checks.answer(() -> g.order(0, 2));
        g.digest();
        CHECKS.due("21 nothing saved by others", g.savedStates(), saved);
        CHECKS.due("21 orders still there", g.orderOf(1), 2);
        Checks.type(g, "r;r");
        g.undo();
        CHECKS.due("18 buffer stays", g.clearBuffer(), 3);
    }

    private static void snapshot() {
        CourierClash g = busyGame();
        CHECKS.refused("20 none", g, STATE, g::restore);
        CHECKS.due("19 turns", g.keep(), 2);
        g.turn();
        g.toggleVan(3);
        g.setCapacity(8);
        g.setLimit(60);
        g.place(2, 6);
        CHECKS.due("20 turns", g.restore(), 2);
        CHECKS.due("20 order", g.orderOf(0), 1);
        CHECKS.due("20 van", g.hasVan(3), false);
        CHECKS.due("20 at", g.junctionOf(2), 2);
        CHECKS.due("20 stop", g.stoppedPart(), 1);
        CHECKS.due("20 saved", g.savedStates(), 5);
        CHECKS.due("20 capacity", g.setCapacity(7), 5);
        CHECKS.due("20 limit", g.setLimit(50), 40);
        CHECKS.due("20 stays", g.restore(), 2);
        CHECKS.due("20 capacity again", g.setCapacity(7), 5);
        g.turn();
        CHECKS.due("19 in place of it", g.keep(), 3);
        g.restore();
        CHECKS.due("19 the new one", g.turnsPassed(), 3);
        while (g.savedStates() > 0) {
            g.undo();
        }
        CHECKS.due("18 snapshot stays", g.restore(), 3);
        Checks.type(g, "r");
        g.restore();
        CHECKS.due("20 buffer stays", g.clearBuffer(), 1);
    }

    private static void snapshotAndNotes() {
        CourierClash g = Checks.game();
        g.turn();
        g.keep();
        CHECKS.due("42 two", g.timesNoted(), 2);
        g.addParcel(5, 6, 1, 1);
        CHECKS.due("42 one", g.timesNoted(), 1);
        g.restore();
        CHECKS.due("20 notes too", g.timesNoted(), 2);
        CHECKS.due("20 parcels too", g.parcels(), 0);
        g.turn();
        CHECKS.due("44 over", g.whyOver(), 2);
        g.restore();
        CHECKS.due("20 not over", g.whyOver(), 0);
    }

    /** What is built anew behind an undo must not stay when the old is restored. */
    private static void otherStreetsAndParcels() {
        CourierClash g = Checks.game(new int[] {0, 1, 1}, new int[] {2, 3});
        g.addParcel(4, 5, 1, 2);
        g.setCapacity(1);
        g.keep();
        for (int i = 0; i < 4; i++) {
            g.undo();
        }
        g.addStreet(7, 6, false);
        g.addStreet(9, 8, true);
        g.addParcel(0, 9, 5, 9);
        g.turn();
        g.restore();
        CHECKS.due("20 from", g.fromOf(0), 0);
        CHECKS.due("20 to", g.toOf(1), 3);
        CHECKS.due("20 parcel", g.placeOf(0), 4);
        CHECKS.due("20 not carried", g.loadOf(0), 0);
        g.toggleVan(0);
        CHECKS.due("20 narrow", g.whyNoOrder(0, 0), 4);
        g.toggleVan(2);
        CHECKS.due("20 wide", g.whyNoOrder(2, 1), 0);
        g.place(3, 4);
        g.turn();
        CHECKS.due("20 weight", g.loadOf(3), 1);
        g.place(3, 5);
        g.turn();
        CHECKS.due("20 target and value", g.pointsOf(1), 2);
    }

    private static void undoAll(CourierClash g) {
        while (g.savedStates() > 0) {
            g.undo();
        }
    }

    /** The last five of 24 streets are others for a while, and yet restore and undo bring each of them back. */
    private static void allStreetsBack() {
        for (int from = 0; from <= 19; from += 19) {
            for (int s = 0; s < 24; s++) {
                boolean other = from == 19 && s >= 19;
                CourierClash g = otherStreets(from == 19);
                int begin = other ? s - 19 : Checks.fullTownFrom(s);
                CHECKS.due("18 and 20 from of " + s, g.fromOf(s), begin);
                CHECKS.due("18 and 20 to of " + s, g.toOf(s), other ? s - 14 : Checks.fullTownTo(s));
                CHECKS.due("18 and 20 open " + s, g.isOpen(s), true);
                Checks.answer(() -> g.place(0, begin));
                int courier = g.junctionOf(0) == begin ? 0 : begin;
                CHECKS.due("18 and 20 can be taken " + s, g.whyNoOrder(courier, s), 0);
                g.toggleVan(courier);
                CHECKS.due("18 and 20 narrow " + s, g.whyNoOrder(courier, s), (s % 2 == 1) == other ? 0 : 4);
            }
        }
    }

    /** A snapshot of 24 streets is restored where there are five others, and if so told, those are brought back. */
    private static CourierClash otherStreets(boolean undone) {
        CourierClash g = Checks.fullTown();
        g.keep();
        undoAll(g);
        CHECKS.due("18 five less", g.streets(), 19);
        for (int s = 19; s < 24; s++) {
            g.addStreet(s - 19, s - 14, s % 2 == 0);
        }
        g.restore();
        if (undone) {
            g.undo();
        }
        return g;
    }

    private static void allParcelsBack() {
        for (int p = 0; p < 8; p++) {
            CourierClash restored = otherParcels(false);
            parcelIs(restored, p, 5 + p % 5, p < 5 ? 0 : 4, 1 + p % 5, 1 + p);
            CourierClash undone = otherParcels(true);
            if (p < 3) {
                parcelIs(undone, p, 5 + p % 5, 0, 1 + p % 5, 1 + p);
            } else {
                parcelIs(undone, p, 9 - p % 5, 4, 5 - p % 5, 9 - p);
            }
        }
    }

    /** As with the streets, for the last five of eight parcels. */
    private static CourierClash otherParcels(boolean undone) {
        CourierClash g = new CourierClash();
        g.setCapacity(9);
        g.toggleVan(0);
        for (int p = 0; p < 8; p++) {
            g.addParcel(5 + p % 5, p < 5 ? 0 : 4, 1 + p % 5, 1 + p);
        }
        g.keep();
        undoAll(g);
        CHECKS.due("18 five less", g.parcels(), 3);
        for (int p = 3; p < 8; p++) {
            g.addParcel(9 - p % 5, 4, 5 - p % 5, 9 - p);
        }
        g.restore();
        if (undone) {
            g.undo();
        }
        return g;
    }

    /** The courier 0 picks the parcel up, with others that wait there, and delivers it alone. */
    private static void parcelIs(CourierClash g, int parcel, int spot, int target, int weight, int value) {
        CHECKS.due("18 and 20 place of " + parcel, g.placeOf(parcel), spot);
        g.place(0, spot);
        g.turn();
        CHECKS.due("18 and 20 picked up " + parcel, g.courierOf(parcel), 0);
        int load = g.loadOf(0);
        g.place(0, target);
        g.turn();
        CHECKS.due("18 and 20 target of " + parcel, g.isDelivered(parcel), true);
        CHECKS.due("18 and 20 weight of " + parcel, load - g.loadOf(0), weight);
        CHECKS.due("18 and 20 value of " + parcel, g.pointsOf(0), value);
    }

    /** What a turn, a van and a place change of each courier is brought back for each. */
    private static void allCouriersBack() {
        for (int c = 0; c < 4; c++) {
            CourierClash g = Checks.town("09 19 29 39 98");
            g.toggleVan(c);
            g.order(c, c);
            g.turn();
            courierIs("18 moved", g, c, 9, 1, 0);
            g.order(c, 4);
            g.turn();
            g.place(c, c);
            g.toggleVan(c);
            g.turn();
            courierIs("18 further", g, c, c, 2, 1);
            CHECKS.due("18 no van", g.hasVan(c), false);
            g.undo();
            g.undo();
            CHECKS.due("18 a van", g.hasVan(c), true);
            g.undo();
            courierIs("18 placed back", g, c, 8, 2, 0);
            g.undo();
            courierIs("18 moved, undone", g, c, 9, 1, 0);
            CHECKS.due("18 its order", g.orderOf(c), 4);
            CHECKS.due("18 a van still", g.hasVan(c), true);
            g.keep();
            g.turn();
            g.turn();
            courierIs("18 on", g, c, 8, 2, 1);
            g.restore();
            courierIs("20 moved, restored", g, c, 9, 1, 0);
            CHECKS.due("20 its order", g.orderOf(c), 4);
        }
    }

    private static void courierIs(String what, CourierClash g, int courier, int junction, int moves, int outcome) {
        CHECKS.due(what + ", at", g.junctionOf(courier), junction);
        CHECKS.due(what + ", moves", g.movesOf(courier), moves);
        CHECKS.due(what + ", outcome", g.outcomeOf(courier), outcome);
        for (int c = 0; c < 4; c++) {
            if (c != courier) {
                CHECKS.due(what + ", others at", g.junctionOf(c), c);
                CHECKS.due(what + ", others' moves", g.movesOf(c), 0);
                CHECKS.due(what + ", others' outcome", g.outcomeOf(c), 1);
            }
        }
    }

    private static void undoOfTurns() {
        CourierClash g = Checks.game(new int[] {0, 1}, new int[] {2, 9});
        g.addParcel(2, 9, 4, 6);
        g.turn();
        g.order(0, 0);
        g.order(2, 1);
        g.turn();
        CHECKS.due("41 failed", g.failedMoves(), 1);
        CHECKS.due("38 points", g.pointsOf(1), 6);
        g.undo();
        CHECKS.due("18 failed", g.failedMoves(), 0);
        CHECKS.due("18 points", g.pointsOf(1), 0);
        CHECKS.due("18 points by parcels", g.pointsByParcels(1), 0);
        CHECKS.due("18 load", g.loadOf(2), 4);
        CHECKS.due("18 outcome", g.outcomeOf(0), 1);
        CHECKS.due("18 moves", g.movesOf(2), 0);
        CHECKS.due("18 street of an order", g.orderOf(2), 1);
        g.turn();
        CHECKS.due("18 points once", g.pointsOf(1), 6);
        g.undo();
        g.undo();
        g.undo();
        g.undo();
        CHECKS.due("18 waits again", g.isWaiting(0), true);
    }

    /** As many notes as there can be: 61, of which no position comes thrice. */
    private static void sixtyTurnsWithoutDrop() {
        CourierClash g = Checks.game();
        for (int j = 0; j < 10; j++) {
            g.addStreet(j, (j + 1) % 10, false);
        }
        g.setLimit(60);
        int[] at = {0, 1, 2, 3};
        // the couriers go round one behind the other; each tenth turn the first one alone goes on
        for (int turn = 0; turn < 60; turn++) {
            for (int c = 3; c >= (turn % 10 == 9 ? 3 : 0); c--) {
                g.order(c, at[c]);
                at[c] = (at[c] + 1) % 10;
            }
            g.turn();
        }
        CHECKS.due("44 sixty turns", g.whyOver(), 3);
        CHECKS.due("43 positions", g.positionsNoted(), 61);
        CHECKS.due("42 now", g.timesNoted(), 1);
        g.keep();
        g.undo();
        CHECKS.due("43 one less", g.positionsNoted(), 60);
        for (int c = 0; c < 4; c++) {
            g.takeBack(c);
        }
        g.turn();
        CHECKS.due("43 one twice", g.positionsNoted(), 60);
        CHECKS.due("42 twice", g.timesNoted(), 2);
        g.restore();
        CHECKS.due("43 all again", g.positionsNoted(), 61);
        CHECKS.due("42 all again", g.timesNoted(), 1);
    }

    private static void undoOfRestore() {
        CourierClash g = Checks.game();
        g.keep();
        g.addStreet(0, 1, false);
        g.restore();
        CHECKS.due("20 gone", g.streets(), 0);
        CHECKS.due("20 undo", g.undo(), 1);
        CHECKS.due("20 back", g.streets(), 1);
        CHECKS.due("18 undo", g.undo(), 0);
        CHECKS.due("18 gone", g.streets(), 0);
        CHECKS.due("20 the snapshot is its own", g.restore(), 0);
        g.addStreet(5, 6, true);
        g.restore();
        CHECKS.due("20 not written to", g.streets(), 0);
    }
}
