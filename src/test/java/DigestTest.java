/** Promise 54: the digest, computed here again from the looks, value by value. */
public final class DigestTest {
    private static final Checks CHECKS = new Checks();
    /** What stands in the buffer, which cannot be looked at. */
    private static String typed = "";

    public static void main(String[] args) {
        CourierClash g = new CourierClash();
        due("new", g);
        CHECKS.due("54 new, in full", g.digest(), byHandOfNewGame());
        g.addStreet(0, 9, false);
        g.addStreet(9, 8, true);
        g.addStreet(1, 9, false);
        due("streets", g);
        g.toggleStreet(1);
        due("closed", g);
        g.addParcel(0, 9, 3, 5);
        g.addParcel(0, 9, 1, 5);
        g.addParcel(2, 8, 2, 9);
        due("parcels", g);
        g.turn();
        due("carried", g);
        g.order(0, 0);
        g.order(1, 2);
        due("orders", g);
        g.turn();
        due("delivered", g);
        CHECKS.due("54 a share of thirds", g.deliveredShare(), 2.0 / 3);
        Checks.played(g, "r;t1;t9");
        due("stopped", g);
        type(g, "o0>~!");
        due("buffer", g);
        g.toggleVan(3);
        g.keep();
        due("van", g);
        g.undo();
        due("undone", g);
        g.setLimit(1);
        due("over", g);
        type(g, "z");
        due("buffer again", g);
        typed = "";
        eachMeanAndShare();
        CHECKS.end("DigestTest");
    }

    private static void type(CourierClash g, String text) {
        Checks.type(g, text);
        typed += text;
    }

    private static void due(String what, CourierClash g) {
        CHECKS.due("54 " + what, g.digest(), again(g));
        CHECKS.due("54 twice " + what, g.digest(), again(g));
    }

    private static void eachMeanAndShare() {
        for (int all = 1; all <= 8; all++) {
            for (int there = 0; there <= all; there++) {
                CourierClash g = new CourierClash();
                g.toggleVan(0);
                g.setCapacity(9);
                for (int p = 0; p < all; p++) {
                    g.addParcel(p < there ? 0 : p % 3 + 1, 9, 1 + p % 2, 1);
                }
                g.turn();
                due("mean", g);
                g.place(0, 9);
                g.turn();
                due("share", g);
            }
        }
    }

    private static long byHandOfNewGame() {
        long hash = 4357;
        long[] counts = {0, 0, 0, 0, 1, 1, 0, 0, 0, 0, 0, 0};
        for (long v : counts) {
            hash = 31 * hash + v;
        }
        for (int c = 0; c < 4; c++) {
            for (long v : new long[] {c, 0, 0, 0, 0, 1, 1L << c, 1L << c, 1}) {
                hash = 31 * hash + v;
            }
            for (int j = 0; j < 10; j++) {
                hash = 31 * hash + (j == c ? 0 : -1);
            }
        }
        for (int i = 0; i < 4; i++) {
            hash = 31 * hash;
        }
        return hash;
    }

    private static long next(long hash, long v) {
        return 31 * hash + v;
    }

    private static long next(long hash, boolean v) {
        return next(hash, v ? 1 : 0);
    }

    private static long again(CourierClash g) {
        long h = next(4357, g.streets());
        h = next(h, g.parcels());
        h = next(h, g.turnsPassed());
        h = next(h, g.failedMoves());
        h = next(h, g.timesNoted());
        h = next(h, g.positionsNoted());
        h = next(h, g.whyOver());
        h = next(next(h, g.pointsOf(0)), g.pointsByParcels(0));
        h = next(next(h, g.pointsOf(1)), g.pointsByParcels(1));
        h = next(h, g.savedStates());
        for (int s = 0; s < g.streets(); s++) {
            h = next(next(next(h, g.fromOf(s)), g.toOf(s)), g.isOpen(s));
        }
        for (int c = 0; c < 4; c++) {
            h = againCourier(h, g, c);
        }
        for (int p = 0; p < g.parcels(); p++) {
            h = next(next(next(h, g.isWaiting(p)), g.isDelivered(p)), g.placeOf(p));
            h = g.isWaiting(p) ? h : next(h, g.courierOf(p));
        }
        h = next(h, g.hasStopped());
        h = g.hasStopped() ? next(h, g.stoppedPart()) : h;
        h = next(h, Float.floatToIntBits(g.meanLoad()));
        h = next(h, Double.doubleToLongBits(g.deliveredShare()));
        return againBuffer(h);
    }

    private static long againCourier(long hash, CourierClash g, int c) {
        long h = next(next(next(hash, g.junctionOf(c)), g.hasVan(c)), g.loadOf(c));
        h = next(h, g.hasOrder(c));
        h = g.hasOrder(c) ? next(h, g.orderOf(c)) : h;
        h = next(next(h, g.movesOf(c)), g.outcomeOf(c));
        h = next(next(next(h, g.reach(c)), g.reachByJoining(c)), g.wouldGo(c));
        for (int j = 0; j < 10; j++) {
            h = next(h, g.distance(c, j));
        }
        return h;
    }

    private static long againBuffer(long hash) {
        long h = next(hash, typed.length());
        for (int i = 0; i < typed.length(); i++) {
            h = next(h, typed.charAt(i));
        }
        return h;
    }
}
