import java.util.function.Consumer;

/** Promises 18 to 21, and what "undoable" means for each call that is marked so. */
public final class UndoTest {
    private static final Class<IllegalStateException> STATE = IllegalStateException.class;
    private static final Checks CHECKS = new Checks();

    public static void main(String[] args) {
        nothingSaved();
        fiveStates();
        eachUndoable();
        notUndoable();
        snapshot();
        snapshotAndNotes();
        undoOfRestore();
        CHECKS.end("UndoTest");
    }

    private static CourierClash busyGame() {
        CourierClash g = Checks.game(new int[] {0, 9}, new int[] {9, 0}, new int[] {1, 8, 1}, new int[] {8, 1});
        g.addParcel(0, 9, 2, 3);
        g.addParcel(2, 8, 2, 3);
        g.turn();
        g.order(0, 0);
        g.turn();
        Checks.played(g, "s0;o1>0");
        g.order(0, 1);
        g.order(1, 2);
        return g;
    }

    private static void nothingSaved() {
        CourierClash g = Checks.game();
        CHECKS.due("21 none", g.savedStates(), 0);
        CHECKS.refused("18 none", g, STATE, g::undo);
        g.setLimit(3);
        CHECKS.due("21 one", g.savedStates(), 1);
        CHECKS.due("18 left", g.undo(), 0);
        CHECKS.refused("18 none again", g, STATE, g::undo);
        CHECKS.due("18 restored", g.setLimit(1), 40);
    }

    private static void fiveStates() {
        CourierClash g = Checks.game();
        long[] digests = new long[9];
        for (int i = 0; i < 9; i++) {
            digests[i] = g.digest();
            g.addStreet(0, i + 1, false);
            CHECKS.due("21 five at most", g.savedStates(), Math.min(5, i + 1));
        }
        for (int left = 4; left >= 0; left--) {
            CHECKS.due("18 left", g.undo(), left);
            CHECKS.due("18 streets", g.streets(), 4 + left);
        }
        CHECKS.refused("18 the oldest are dropped", g, STATE, g::undo);
        CHECKS.due("18 digest but for what is saved", g.digest() == digests[4], false);
        g.addStreet(5, 6, true);
        CHECKS.due("18 goes on", g.fromOf(4), 5);
        CHECKS.due("18 goes on, saved", g.savedStates(), 1);
    }

    private static void eachUndoable() {
        undoable("2", g -> g.addStreet(5, 6, true));
        undoable("3", g -> g.toggleStreet(1));
        undoable("4", g -> g.place(0, 7));
        undoable("4 nowhere", g -> g.place(3, 3));
        undoable("5", g -> g.toggleVan(1));
        undoable("6", g -> g.setCapacity(5));
        undoable("6 other", g -> g.setCapacity(3));
        undoable("7", g -> g.addParcel(4, 5, 1, 1));
        undoable("8", g -> g.setLimit(40));
        undoable("8 other", g -> g.setLimit(2));
        undoable("9", g -> g.order(0, 1));
        undoable("10", g -> g.takeBack(0));
        undoable("10 none", g -> g.takeBack(3));
        undoable("11", CourierClash::turn);
        undoable("15", g -> Checks.played(g, "t0;r;r;r;r"));
        undoable("20", CourierClash::restore);
    }

    private static void undoable(String what, Consumer<CourierClash> call) {
        CourierClash g = busyGame();
        g.keep();
        g.setLimit(41);
        g.undo();
        int saved = g.savedStates();
        CHECKS.due(what + " room to save", saved, 4);
        long before = g.digest();
        call.accept(g);
        CHECKS.due(what + " saves one", g.savedStates(), saved + 1);
        CHECKS.due(what + " undo left", g.undo(), saved);
        CHECKS.due(what + " undo brings all back", g.digest(), before);
    }

    private static void notUndoable() {
        CourierClash g = busyGame();
        int saved = g.savedStates();
        g.keep();
        Checks.type(g, "x");
        g.firstError();
        Checks.answer(g::play);
        g.clearBuffer();
        Checks.answer(() -> g.addStreet(0, 0, false));
        Checks.answer(() -> g.order(0, 2));
        g.digest();
        CHECKS.due("21 nothing saved by others", g.savedStates(), saved);
        CHECKS.due("21 orders still there", g.orderOf(1), 2);
        Checks.type(g, "r;r");
        g.undo();
        CHECKS.due("18 buffer stays", g.clearBuffer(), 3);
    }

    private static void snapshot() {
        CourierClash g = busyGame();
        CHECKS.refused("20 none", g, STATE, g::restore);
        CHECKS.due("19 turns", g.keep(), 2);
        g.turn();
        g.toggleVan(3);
        g.setCapacity(8);
        g.setLimit(60);
        g.place(2, 6);
        CHECKS.due("20 turns", g.restore(), 2);
        CHECKS.due("20 order", g.orderOf(0), 1);
        CHECKS.due("20 van", g.hasVan(3), false);
        CHECKS.due("20 at", g.junctionOf(2), 2);
        CHECKS.due("20 stop", g.stoppedPart(), 1);
        CHECKS.due("20 saved", g.savedStates(), 5);
        CHECKS.due("20 capacity", g.setCapacity(7), 5);
        CHECKS.due("20 limit", g.setLimit(50), 40);
        CHECKS.due("20 stays", g.restore(), 2);
        CHECKS.due("20 capacity again", g.setCapacity(7), 5);
        g.turn();
        CHECKS.due("19 in place of it", g.keep(), 3);
        g.restore();
        CHECKS.due("19 the new one", g.turnsPassed(), 3);
        while (g.savedStates() > 0) {
            g.undo();
        }
        CHECKS.due("18 snapshot stays", g.restore(), 3);
        Checks.type(g, "r");
        g.restore();
        CHECKS.due("20 buffer stays", g.clearBuffer(), 1);
    }

    private static void snapshotAndNotes() {
        CourierClash g = Checks.game();
        g.turn();
        g.keep();
        CHECKS.due("42 two", g.timesNoted(), 2);
        g.addParcel(5, 6, 1, 1);
        CHECKS.due("42 one", g.timesNoted(), 1);
        g.restore();
        CHECKS.due("20 notes too", g.timesNoted(), 2);
        CHECKS.due("20 parcels too", g.parcels(), 0);
        g.turn();
        CHECKS.due("44 over", g.whyOver(), 2);
        g.restore();
        CHECKS.due("20 not over", g.whyOver(), 0);
    }

    private static void undoOfRestore() {
        CourierClash g = Checks.game();
        g.keep();
        g.addStreet(0, 1, false);
        g.restore();
        CHECKS.due("20 gone", g.streets(), 0);
        CHECKS.due("20 undo", g.undo(), 1);
        CHECKS.due("20 back", g.streets(), 1);
        CHECKS.due("18 undo", g.undo(), 0);
        CHECKS.due("18 gone", g.streets(), 0);
        CHECKS.due("20 the snapshot is its own", g.restore(), 0);
        g.addStreet(5, 6, true);
        g.restore();
        CHECKS.due("20 not written to", g.streets(), 0);
    }
}
