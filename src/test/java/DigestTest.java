import java.util.ArrayList;
import java.util.List;
import java.util.function.Consumer;

/** Promise 54: the digest, computed here again from the looks, value by value. */
public final class DigestTest {
    private static final Checks CHECKS = new Checks();
    private static final List<String> NAMES = new ArrayList<>();
    private static final List<Consumer<CourierClash>> STEPS = new ArrayList<>();
    /** What stands in the buffer, which cannot be looked at. */
    private static String typed = "";

    public static void main(String[] args) {
        CHECKS.due("54 new, in full", new CourierClash().digest(), byHandOfNewGame());
        aGame();
        due("54 step by step");
        aFullGame();
        due("54 full, step by step");
        typed = "";
        eachMeanAndShare();
        CHECKS.end("DigestTest");
    }

    private static void step(String name, Consumer<CourierClash> step) {
        NAMES.add(name);
        STEPS.add(step);
    }

    private static void aGame() {
        step("new", g -> typed = "");
        step("streets", g -> {
            g.addStreet(0, 9, false);
            g.addStreet(9, 8, true);
            g.addStreet(1, 9, false);
        });
        step("closed", g -> g.toggleStreet(1));
        step("parcels", g -> {
            g.addParcel(0, 9, 3, 5);
            g.addParcel(0, 9, 1, 5);
            g.addParcel(2, 8, 2, 9);
        });
        step("carried", CourierClash::turn);
        step("orders", g -> {
            g.order(0, 0);
            g.order(1, 2);
        });
        step("delivered", CourierClash::turn);
        step("a share of thirds", g -> CHECKS.due("53 thirds", g.deliveredShare(), 2.0 / 3));
        step("stopped", g -> Checks.played(g, "r;t1;t9"));
        step("buffer", g -> type(g, "o0>~!"));
        step("van", g -> {
            g.toggleVan(3);
            g.keep();
        });
        step("undone", CourierClash::undo);
        step("over", g -> g.setLimit(1));
        step("buffer again", g -> type(g, "z"));
    }

    /** As many streets, parcels and characters as there can be, and all couriers with all that can be told of them. */
    private static void aFullGame() {
        step("new", g -> typed = "");
        step("all streets", g -> {
            for (int s = 0; s < 24; s++) {
                g.addStreet(Checks.fullTownFrom(s), Checks.fullTownTo(s), s % 2 == 1);
            }
        });
        for (int s = 0; s < 24; s++) {
            int street = s;
            step("closed " + s, g -> g.toggleStreet(street));
        }
        step("some open", g -> Checks.played(g, "t0;t2;t3;t5;t7;t9;t10;t11;t13;t15;t18;t20;t21;t23"));
        step("placed", g -> {
            g.place(3, 9);
            g.place(2, 8);
            g.place(1, 7);
        });
        step("all parcels", g -> {
            for (int p = 0; p < 8; p++) {
                g.addParcel(new int[] {0, 7, 8, 9}[p % 4], p % 4 == 0 ? 9 : p / 4, 1 + p % 5, 1 + p);
            }
        });
        step("carried", CourierClash::turn);
        step("orders", g -> {
            g.order(1, 20);
            g.order(2, 10);
            g.order(3, 3);
        });
        step("moved", CourierClash::turn);
        step("vans", g -> {
            g.toggleVan(0);
            g.toggleVan(2);
        });
        step("sixty characters", g -> type(g, "!~".repeat(30)));
    }

    private static void type(CourierClash g, String text) {
        Checks.type(g, text);
        typed += text;
    }

    /** A game of its own for the steps up to each one, since a game is good for 512 calls alone. */
    private static void due(String what) {
        for (int last = 0; last < STEPS.size(); last++) {
            CourierClash g = new CourierClash();
            for (int i = 0; i <= last; i++) {
                STEPS.get(i).accept(g);
            }
            due(what + ", " + NAMES.get(last), g);
        }
        NAMES.clear();
        STEPS.clear();
    }

    private static void due(String what, CourierClash g) {
        long want = again(g);
        CHECKS.due(what, g.digest(), want);
        CHECKS.due(what + ", twice", g.digest(), want);
    }

    private static void eachMeanAndShare() {
        for (int all = 1; all <= 8; all++) {
            for (int there = 0; there <= all; there++) {
                CourierClash g = new CourierClash();
                g.toggleVan(0);
                g.setCapacity(9);
                for (int p = 0; p < all; p++) {
                    g.addParcel(p < there ? 0 : p % 3 + 1, 9, 1 + p % 2, 1);
                }
                g.turn();
                due("54 mean", g);
                g.place(0, 9);
                g.turn();
                due("54 share", g);
            }
        }
    }

    private static long byHandOfNewGame() {
        long hash = 4357;
        long[] counts = {0, 0, 0, 0, 1, 1, 0, 0, 0, 0, 0, 0};
        for (long v : counts) {
            hash = 31 * hash + v;
        }
        for (int c = 0; c < 4; c++) {
            for (long v : new long[] {c, 0, 0, 0, 0, 1, 1L << c, 1L << c, 1}) {
                hash = 31 * hash + v;
            }
            for (int j = 0; j < 10; j++) {
                hash = 31 * hash + (j == c ? 0 : -1);
            }
        }
        for (int i = 0; i < 4; i++) {
            hash = 31 * hash;
        }
        return hash;
    }

    private static long next(long hash, long v) {
        return 31 * hash + v;
    }

    private static long next(long hash, boolean v) {
        return next(hash, v ? 1 : 0);
    }

    private static long again(CourierClash g) {
        long h = next(4357, g.streets());
        h = next(h, g.parcels());
        h = next(h, g.turnsPassed());
        h = next(h, g.failedMoves());
        h = next(h, g.timesNoted());
        h = next(h, g.positionsNoted());
        h = next(h, g.whyOver());
        h = next(next(h, g.pointsOf(0)), g.pointsByParcels(0));
        h = next(next(h, g.pointsOf(1)), g.pointsByParcels(1));
        h = next(h, g.savedStates());
        for (int s = 0; s < g.streets(); s++) {
            h = next(next(next(h, g.fromOf(s)), g.toOf(s)), g.isOpen(s));
        }
        for (int c = 0; c < 4; c++) {
            h = againCourier(h, g, c);
        }
        for (int p = 0; p < g.parcels(); p++) {
            h = next(next(next(h, g.isWaiting(p)), g.isDelivered(p)), g.placeOf(p));
            h = g.isWaiting(p) ? h : next(h, g.courierOf(p));
        }
        h = next(h, g.hasStopped());
        h = g.hasStopped() ? next(h, g.stoppedPart()) : h;
        h = next(h, Float.floatToIntBits(g.meanLoad()));
        h = next(h, Double.doubleToLongBits(g.deliveredShare()));
        return againBuffer(h);
    }

    private static long againCourier(long hash, CourierClash g, int c) {
        long h = next(next(next(hash, g.junctionOf(c)), g.hasVan(c)), g.loadOf(c));
        h = next(h, g.hasOrder(c));
        h = g.hasOrder(c) ? next(h, g.orderOf(c)) : h;
        h = next(next(h, g.movesOf(c)), g.outcomeOf(c));
        h = next(next(next(h, g.reach(c)), g.reachByJoining(c)), g.wouldGo(c));
        for (int j = 0; j < 10; j++) {
            h = next(h, g.distance(c, j));
        }
        return h;
    }

    private static long againBuffer(long hash) {
        long h = next(hash, typed.length());
        for (int i = 0; i < typed.length(); i++) {
            h = next(h, typed.charAt(i));
        }
        return h;
    }
}
