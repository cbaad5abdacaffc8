import java.util.function.Consumer;

/** The terms, sentence by sentence: "Positions, the end". */
public final class TermsOfTheEndTest {
    private static final Class<IllegalArgumentException> ARGUMENT = IllegalArgumentException.class;
    private static final Class<IllegalStateException> STATE = IllegalStateException.class;
    private static final Checks CHECKS = new Checks();

    public static void main(String[] args) {
        whereEachCourierIs();
        whereEachParcelIs();
        whereCouriersAreBehindDeliveries();
        nothingElseIsInAPosition();
        notedBehindEachTurn();
        notesAreDropped();
        notesAreNotDropped();
        allAreDelivered();
        notedThreeTimes();
        asManyTurnsAsTheLimit();
        limitOneToSixty();
        theFirstReason();
        noOrdersAndNoTurns();
        whatGoesOnWhenOver();
        CHECKS.end("TermsOfTheEndTest");
    }

    private static void noted(String what, CourierClash g, int times, int positions) {
        CHECKS.due("42 " + what, g.timesNoted(), times);
        CHECKS.due("43 " + what, g.positionsNoted(), positions);
    }

    /** "A position is where each courier is": also which one is where. */
    private static void whereEachCourierIs() {
        CourierClash g = Checks.town("01 12 23 30");
        for (int shift = 1; shift <= 3; shift++) {
            for (int c = 0; c < 4; c++) {
                g.order(c, g.junctionOf(c));
            }
            g.turn();
            noted("the same junctions, by others", g, 1, shift + 1);
        }
        for (int c = 0; c < 4; c++) {
            g.order(c, g.junctionOf(c));
        }
        g.turn();
        noted("all as at first", g, 2, 4);
        for (int c = 0; c < 4; c++) {
            CourierClash h = Checks.town("08 80 18 81 28 82 38 83");
            h.order(c, 2 * c);
            h.turn();
            noted("one elsewhere " + c, h, 1, 2);
            h.order(c, 2 * c + 1);
            h.turn();
            noted("back again " + c, h, 2, 2);
        }
    }

    /** "and for each parcel where it waits, or who carries or delivered it" */
    private static void whereEachParcelIs() {
        for (int p = 0; p < 8; p++) {
            for (int c = 0; c < 4; c++) {
                CourierClash g = Checks.town("09 90 19 91 29 92 39 93");
                for (int other = 0; other < 8; other++) {
                    g.addParcel(other == p ? 9 : 8, c, 1, 1);
                }
                noted("waits", g, 1, 1);
                g.order(c, 2 * c);
                g.turn();
                g.order(c, 2 * c + 1);
                g.turn();
                CHECKS.due("delivered " + p, g.courierOf(p), c);
                noted("all couriers as at first, one parcel delivered", g, 1, 3);
                g.order(c, 2 * c);
                g.turn();
                noted("delivered, not carried", g, 1, 4);
                while (g.savedStates() > 0) {
                    g.undo();
                }
                g.takeBack(c);
                g.turn();
                noted("waits again", g, 2, 1);
            }
        }
    }

    /** Whoever delivered a parcel, the others' junctions are told apart as before. */
    private static void whereCouriersAreBehindDeliveries() {
        for (int pair = 0; pair < 16; pair++) {
            int c = pair / 4;
            int other = pair % 4;
            CourierClash g = Checks.town("45 56 67 74");
            g.addParcel(c, 9, 1, 1);
            g.addParcel(c, 9, 1, 1);
            g.addParcel(8, 9, 1, 1);
            g.turn();
            g.place(c, 9);
            g.turn();
            g.place(other, 4);
            for (int street = 0; street < 3; street++) {
                g.order(other, street);
                g.turn();
                noted("one street on", g, 1, street + 2);
            }
            g.order(other, 3);
            g.turn();
            noted("all round", g, 2, 4);
        }
    }

    /** Vans, settings, streets and orders are in no position. */
    private static void nothingElseIsInAPosition() {
        CourierClash g = Checks.town("09 98");
        g.toggleVan(0);
        g.setCapacity(9);
        g.setLimit(60);
        g.toggleStreet(0);
        g.addStreet(5, 6, true);
        g.turn();
        noted("the same", g, 2, 1);
    }

    /** "Behind each turn the position is noted." */
    private static void notedBehindEachTurn() {
        CourierClash g = Checks.town("09 01");
        noted("at first", g, 1, 1);
        g.turn();
        noted("though nobody moves", g, 2, 1);
        g.order(0, 0);
        noted("not ahead of the turn", g, 2, 1);
        g.turn();
        noted("a new one", g, 1, 2);
        CourierClash failing = Checks.town("01");
        failing.order(0, 0);
        failing.turn();
        noted("though all moves fail", failing, 2, 1);
    }

    /** "When a courier is placed or a parcel comes, all notes are dropped, and the position of then is noted" */
    private static void notesAreDropped() {
        dropped("placed", g -> g.place(0, 5));
        dropped("placed where it is", g -> g.place(0, 9));
        dropped("a parcel comes", g -> g.addParcel(5, 6, 1, 1));
        CourierClash g = Checks.town("09 90");
        g.order(0, 0);
        g.turn();
        g.place(0, 0);
        noted("what was noted ahead of it", g, 1, 1);
        g.turn();
        noted("counts anew", g, 2, 1);
        g.turn();
        noted("up to three", g, 3, 1);
        CHECKS.due("44 over", g.whyOver(), 2);
    }

    private static CourierClash twoNoted() {
        CourierClash g = Checks.town("09 90");
        g.order(0, 0);
        g.turn();
        g.turn();
        noted("two before", g, 2, 2);
        return g;
    }

    private static void dropped(String what, Consumer<CourierClash> call) {
        CourierClash g = twoNoted();
        call.accept(g);
        noted(what, g, 1, 1);
        g.undo();
        noted(what + ", undone", g, 2, 2);
    }

    private static void notesAreNotDropped() {
        CourierClash g = twoNoted();
        Checks.answer(() -> g.place(0, 1));
        Checks.answer(() -> g.addParcel(5, 5, 1, 1));
        g.addStreet(0, 5, false);
        g.toggleStreet(0);
        g.toggleVan(0);
        g.setCapacity(1);
        g.setLimit(60);
        g.order(0, 1);
        g.takeBack(0);
        Checks.played(g, "s0;t0");
        g.keep();
        g.restore();
        noted("by nothing else", g, 2, 2);
    }

    /** "1: there are parcels, and all are delivered" */
    private static void allAreDelivered() {
        CourierClash none = Checks.town("");
        CHECKS.due("44 no parcels", none.whyOver(), 0);
        for (int all = 1; all <= 8; all++) {
            CourierClash g = Checks.town("");
            g.setCapacity(9);
            for (int p = 0; p < all; p++) {
                g.addParcel(0, p == 0 ? 8 : 9, 1, 1);
            }
            CHECKS.due("44 all wait", g.whyOver(), 0);
            g.turn();
            CHECKS.due("44 all carried", g.whyOver(), 0);
            g.place(0, 9);
            g.turn();
            CHECKS.due("44 all but one delivered", g.whyOver(), 0);
            g.place(0, 8);
            CHECKS.due("44 not by placing", g.whyOver(), 0);
            g.turn();
            CHECKS.due("44 all delivered", g.whyOver(), 1);
            g.place(0, 7);
            CHECKS.due("44 still, though placed", g.whyOver(), 1);
        }
    }

    /** "2: the position of now was noted 3 times or more"; more than 3 cannot come, for no turn follows the third. */
    private static void notedThreeTimes() {
        CourierClash g = Checks.town("");
        CHECKS.due("44 once", g.whyOver(), 0);
        g.turn();
        CHECKS.due("44 twice", g.whyOver(), 0);
        g.turn();
        CHECKS.due("44 three times", g.whyOver(), 2);
        CHECKS.refused("no fourth time", g, STATE, g::turn);
        g.place(3, 9);
        CHECKS.due("44 not when the notes are dropped", g.whyOver(), 0);
        CourierClash other = Checks.town("09 90");
        for (int turn = 0; turn < 3; turn++) {
            other.order(0, turn % 2);
            other.turn();
        }
        noted("another one twice too", other, 2, 2);
        CHECKS.due("44 of four notes none three times", other.whyOver(), 0);
    }

    /** The courier 1 is placed each time, so that no position comes again. */
    private static void turns(CourierClash g, int count) {
        for (int turn = 0; turn < count; turn++) {
            g.place(1, g.junctionOf(1) == 9 ? 8 : 9);
            g.turn();
        }
    }

    /** "3: as many turns as the limit (a setting, 1 to 60, at first 40), or more, have passed" */
    private static void asManyTurnsAsTheLimit() {
        CourierClash g = Checks.town("");
        turns(g, 39);
        CHECKS.due("44 one less than 40", g.whyOver(), 0);
        turns(g, 1);
        CHECKS.due("44 at first 40", g.whyOver(), 3);
        CHECKS.due("8 it was 40", g.setLimit(41), 40);
        CHECKS.due("44 one more", g.whyOver(), 0);
        g.setLimit(39);
        CHECKS.due("44 more than the limit", g.whyOver(), 3);
        g.setLimit(60);
        turns(g, 19);
        CHECKS.due("44 one less than 60", g.whyOver(), 0);
        turns(g, 1);
        CHECKS.due("44 sixty", g.whyOver(), 3);
        CHECKS.due("40 sixty", g.turnsPassed(), 60);
        CHECKS.refused("11 no turn more", g, STATE, g::turn);
        CourierClash one = Checks.town("");
        one.setLimit(1);
        CHECKS.due("44 no turn yet", one.whyOver(), 0);
        one.turn();
        CHECKS.due("44 one turn", one.whyOver(), 3);
    }

    private static void limitOneToSixty() {
        CourierClash g = new CourierClash();
        int before = 40;
        for (int limit = 1; limit <= 60; limit++) {
            CHECKS.due("8 previous", g.setLimit(limit), before);
            before = limit;
        }
        for (int bad : new int[] {0, 61, -1, Integer.MIN_VALUE, Integer.MAX_VALUE}) {
            CHECKS.refused("8 limit " + bad, g, ARGUMENT, () -> g.setLimit(bad));
        }
        CHECKS.due("8 refused ones change nothing", g.setLimit(40), 60);
    }

    /** "for the first of these reasons"; 1 and 2 cannot meet, for what is delivered last makes a new position. */
    private static void theFirstReason() {
        CourierClash delivered = Checks.town("");
        delivered.addParcel(0, 9, 1, 1);
        delivered.setLimit(2);
        delivered.turn();
        delivered.place(0, 9);
        delivered.turn();
        CHECKS.due("44 1 ahead of 3", delivered.whyOver(), 1);
        CourierClash again = Checks.town("");
        again.setLimit(2);
        again.turn();
        again.turn();
        CHECKS.due("44 2 ahead of 3", again.whyOver(), 2);
    }

    /** A game that is over for a reason, with an order that is there still for the reason 3. */
    private static CourierClash over(int reason) {
        CourierClash g = Checks.town("08 98");
        if (reason == 1) {
            g.addParcel(0, 9, 1, 1);
            g.turn();
            g.place(0, 9);
        }
        g.turn();
        if (reason == 2) {
            g.turn();
        }
        if (reason == 3) {
            g.order(0, 0);
            g.setLimit(1);
        }
        CHECKS.due("44 made over", g.whyOver(), reason);
        return g;
    }

    /** "When it is over, there are no orders and no turns (those that are there stay)." */
    private static void noOrdersAndNoTurns() {
        for (int reason = 1; reason <= 3; reason++) {
            CourierClash g = over(reason);
            int street = reason == 1 ? 1 : 0;
            CHECKS.refused("9 over", g, STATE, () -> g.order(0, street));
            CHECKS.refused("11 over", g, STATE, g::turn);
            CHECKS.due("50 over", g.whyNoOrder(0, street), 1);
            Checks.type(g, "s1;r");
            CHECKS.due("15 no turn by a text", g.play(), 1);
            Checks.type(g, "s1;s2;o0>" + street);
            CHECKS.due("15 no order by a text", g.play(), 2);
            CHECKS.due("40 no turn", g.turnsPassed(), reason == 3 ? 1 : 2);
            CHECKS.due("29 stays", g.hasOrder(0), reason == 3);
        }
        CourierClash g = over(3);
        CHECKS.due("30 stays", g.orderOf(0), 0);
        CHECKS.due("51 foretold still", g.wouldGo(0), 0);
        CHECKS.due("51 no order", g.wouldGo(1), 1);
        g.setLimit(2);
        CHECKS.due("11 goes, when it goes on", g.turn(), 1);
        CHECKS.due("26 went", g.junctionOf(0), 8);
    }

    /** All but orders and turns. */
    private static void whatGoesOnWhenOver() {
        CourierClash g = over(3);
        CHECKS.due("2", g.addStreet(0, 7, false), 2);
        CHECKS.due("3", g.toggleStreet(2), false);
        CHECKS.due("4", g.place(1, 5), 1);
        CHECKS.due("5", g.toggleVan(1), true);
        CHECKS.due("6", g.setCapacity(4), 5);
        CHECKS.due("7", g.addParcel(8, 0, 1, 1), 0);
        CHECKS.due("10", g.takeBack(0), true);
        CHECKS.due("15", Checks.played(g, "s0;t0;t0"), 3);
        CHECKS.due("44 still over", g.whyOver(), 3);
        CHECKS.due("45", g.reach(0), 257);
        CHECKS.due("47", g.distance(0, 8), 1);
        CHECKS.due("48", g.nextStreet(0, 8), 0);
        g.addStreet(8, 0, false);
        CHECKS.due("49", g.bestParcel(0), 0);
        CHECKS.due("19", g.keep(), 1);
        CHECKS.due("20", g.restore(), 1);
        CHECKS.due("18", g.undo(), 4);
        CHECKS.due("8", g.setLimit(2), 1);
        CHECKS.due("44 goes on", g.whyOver(), 0);
    }
}
