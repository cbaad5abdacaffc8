/** Promises 28, 33 to 39, 52 and 53: parcels picked up and delivered, points, means. */
public final class ParcelsTest {
    private static final Class<IndexOutOfBoundsException> INDEX = IndexOutOfBoundsException.class;
    private static final Class<IllegalStateException> STATE = IllegalStateException.class;
    private static final Checks CHECKS = new Checks();

    public static void main(String[] args) {
        oneParcel();
        byValueThenWeightThenNumber();
        byNumber();
        pickUpBehindDelivery();
        deliveryGoesByCourier();
        positionsTellDeliverers();
        means();
        shares();
        wrongParcels();
        CHECKS.end("ParcelsTest");
    }

    private static void oneParcel() {
        CourierClash g = Checks.game(new int[] {2, 9}, new int[] {9, 8});
        CHECKS.due("33 none", g.parcels(), 0);
        g.addParcel(9, 8, 4, 6);
        CHECKS.due("33 one", g.parcels(), 1);
        g.order(2, 0);
        CHECKS.due("34 waits", g.isWaiting(0), true);
        CHECKS.refused("36 waits", g, STATE, () -> g.courierOf(0));
        g.turn();
        CHECKS.due("34 carried", g.isWaiting(0), false);
        CHECKS.due("35 carried", g.isDelivered(0), false);
        CHECKS.due("36 carried", g.courierOf(0), 2);
        CHECKS.due("37 carried", g.placeOf(0), 9);
        CHECKS.due("28 carried", g.loadOf(2), 4);
        CHECKS.due("38 none yet", g.pointsOf(1), 0);
        g.order(2, 1);
        g.turn();
        CHECKS.due("33 delivered ones count still", g.parcels(), 1);
        CHECKS.due("34 delivered", g.isWaiting(0), false);
        CHECKS.due("35 delivered", g.isDelivered(0), true);
        CHECKS.due("36 delivered", g.courierOf(0), 2);
        CHECKS.due("37 delivered", g.placeOf(0), 8);
        CHECKS.due("28 delivered", g.loadOf(2), 0);
        CHECKS.due("38 player 1", g.pointsOf(1), 6);
        CHECKS.due("39 player 1", g.pointsByParcels(1), 6);
        CHECKS.due("38 player 0", g.pointsOf(0), 0);
        CHECKS.due("39 player 0", g.pointsByParcels(0), 0);
        g.place(2, 0 + 5);
        CHECKS.due("37 stays at its target", g.placeOf(0), 8);
    }

    private static void byValueThenWeightThenNumber() {
        CourierClash g = Checks.game();
        g.addParcel(1, 9, 3, 5);
        g.addParcel(1, 9, 2, 5);
        g.addParcel(1, 9, 4, 9);
        g.addParcel(1, 9, 1, 1);
        g.turn();
        // 2 (9 points) first, then 1 does not fit (4 + 2), nor 0, but 3 (4 + 1) does
        CHECKS.due("11 value", g.courierOf(2), 1);
        CHECKS.due("11 too heavy", g.isWaiting(1), true);
        CHECKS.due("11 too heavy 0", g.isWaiting(0), true);
        CHECKS.due("11 goes on", g.courierOf(3), 1);
        CHECKS.due("28 load", g.loadOf(1), 5);
        CourierClash h = Checks.game();
        h.addParcel(1, 9, 4, 5);
        h.addParcel(1, 9, 3, 5);
        h.turn();
        CHECKS.due("11 lighter", h.isWaiting(1), false);
        CHECKS.due("11 heavier", h.isWaiting(0), true);
    }

    private static void byNumber() {
        CourierClash g = Checks.game();
        g.addParcel(3, 9, 3, 5);
        g.addParcel(3, 8, 3, 5);
        g.addParcel(2, 8, 3, 5);
        g.turn();
        CHECKS.due("11 lowest number", g.courierOf(0), 3);
        CHECKS.due("11 other number", g.isWaiting(1), true);
        CHECKS.due("11 by its junction", g.courierOf(2), 2);
    }

    private static void pickUpBehindDelivery() {
        CourierClash g = Checks.game(new int[] {0, 9});
        g.addParcel(0, 9, 3, 5);
        g.addParcel(0, 9, 2, 4);
        g.addParcel(9, 0, 5, 5);
        g.turn();
        CHECKS.due("28 full", g.loadOf(0), 5);
        CHECKS.due("52 full", g.meanLoad(), 1.25f);
        g.order(0, 0);
        g.turn();
        CHECKS.due("11 delivers all", g.isDelivered(0) && g.isDelivered(1), true);
        CHECKS.due("11 then picks up", g.courierOf(2), 0);
        CHECKS.due("52 still full", g.meanLoad(), 1.25f);
        CHECKS.due("6 just as much", g.setCapacity(5), 5);
        CHECKS.due("38 together", g.pointsOf(0), 9);
        CHECKS.due("39 together", g.pointsByParcels(0), 9);
        g.place(0, 0);
        CHECKS.due("37 with its courier", g.placeOf(2), 0);
        g.place(1, 9);
        g.turn();
        CHECKS.due("11 delivers where it stays", g.isDelivered(2), true);
        CHECKS.due("6 what is delivered weighs nothing", g.setCapacity(1), 5);
    }

    private static void deliveryGoesByCourier() {
        CourierClash g = Checks.game();
        for (int c = 0; c < 4; c++) {
            g.addParcel(c, 9, 1, c + 1);
            g.addParcel(c, 8, 2, 2);
        }
        g.turn();
        for (int c = 0; c < 4; c++) {
            CHECKS.due("28 both", g.loadOf(c), 3);
            g.place(c, 9);
            g.turn();
            g.place(c, c);
        }
        CHECKS.due("38 player 0", g.pointsOf(0), 3);
        CHECKS.due("38 player 1", g.pointsOf(1), 7);
        CHECKS.due("39 player 0", g.pointsByParcels(0), 3);
        CHECKS.due("39 player 1", g.pointsByParcels(1), 7);
        CHECKS.due("44 not all", g.whyOver(), 0);
        CHECKS.due("53 half", g.deliveredShare(), 0.5);
        for (int c = 0; c < 4; c++) {
            CHECKS.due("36 delivered by", g.courierOf(2 * c), c);
            CHECKS.due("36 carried by", g.courierOf(2 * c + 1), c);
        }
        CHECKS.due("52 delivered ones weigh no more", g.meanLoad(), 2.0f);
        CHECKS.due("6 delivered ones weigh no more", g.setCapacity(2), 5);
    }

    private static void positionsTellDeliverers() {
        CourierClash g = Checks.game(new int[] {0, 9}, new int[] {9, 8}, new int[] {8, 0});
        g.addParcel(0, 9, 1, 1);
        g.addParcel(5, 6, 1, 1);
        g.turn();
        CHECKS.due("43 picked up", g.positionsNoted(), 2);
        CHECKS.due("42 picked up", g.timesNoted(), 1);
        for (int street = 0; street < 3; street++) {
            g.order(0, street);
            g.turn();
            CHECKS.due("43 new ones", g.positionsNoted(), 3 + street);
        }
        CHECKS.due("42 at 0 again, delivered", g.timesNoted(), 1);
    }

    private static void means() {
        CourierClash g = Checks.game();
        CHECKS.due("52 none", g.meanLoad(), 0.0f);
        g.setCapacity(9);
        int[] weights = {1, 2, 3, 5, 5, 5, 4, 4};
        int together = 0;
        for (int p = 0; p < 8; p++) {
            g.addParcel(p % 4, 9, weights[p], 1);
            g.turn();
            together += weights[p];
            CHECKS.due("52 mean", g.meanLoad(), (float) together / 4);
        }
    }

    private static void shares() {
        CHECKS.due("53 none", Checks.game().deliveredShare(), 0.0);
        for (int all = 1; all <= 8; all++) {
            for (int delivered = 0; delivered <= all; delivered++) {
                CourierClash g = Checks.game();
                g.setCapacity(9);
                g.toggleVan(0);
                for (int p = 0; p < all; p++) {
                    g.addParcel(p < delivered ? 0 : 5, 9, 1, 1);
                }
                g.turn();
                g.place(0, 9);
                g.turn();
                CHECKS.due("53 share", g.deliveredShare(), (double) delivered / all);
                CHECKS.due("44 all or not", g.whyOver(), delivered == all ? 1 : 0);
            }
        }
    }

    private static void wrongParcels() {
        CourierClash g = Checks.game();
        g.addParcel(5, 6, 1, 1);
        for (int bad : new int[] {-1, 1, 8, Integer.MIN_VALUE, Integer.MAX_VALUE}) {
            CHECKS.refused("34 none", g, INDEX, () -> g.isWaiting(bad));
            CHECKS.refused("35 none", g, INDEX, () -> g.isDelivered(bad));
            CHECKS.refused("36 none", g, INDEX, () -> g.courierOf(bad));
            CHECKS.refused("37 none", g, INDEX, () -> g.placeOf(bad));
        }
        for (int bad : new int[] {-1, 2, Integer.MIN_VALUE, Integer.MAX_VALUE}) {
            CHECKS.refused("38 none", g, INDEX, () -> g.pointsOf(bad));
            CHECKS.refused("39 none", g, INDEX, () -> g.pointsByParcels(bad));
        }
    }
}
