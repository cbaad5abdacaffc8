/** Promises 9 to 11, 29 to 32, 40 to 44 and 51: orders, turns, how moves fail, the end. */
public final class TurnsTest {
    private static final Class<IndexOutOfBoundsException> INDEX = IndexOutOfBoundsException.class;
    private static final Class<IllegalStateException> STATE = IllegalStateException.class;
    private static final Checks CHECKS = new Checks();

    public static void main(String[] args) {
        order();
        orderWhenOver();
        takeBack();
        exchange();
        circle();
        heavierRival();
        rivalAsHeavy();
        oneWhoStays();
        roundsAreJudgedAtOnce();
        exchangeWithAHeavierRival();
        failedOneStaysInTheNextRound();
        positionsAgain();
        limit();
        allDelivered();
        CHECKS.end("TurnsTest");
    }

    private static void due(String what, CourierClash game, int movers, int... reasons) {
        for (int c = 0; c < 4; c++) {
            CHECKS.due("51 " + what + " foretold for " + c, game.wouldGo(c), reasons[c]);
        }
        int failedBefore = game.failedMoves();
        int[] movesBefore = {game.movesOf(0), game.movesOf(1), game.movesOf(2), game.movesOf(3)};
        CHECKS.due("11 " + what, game.turn(), movers);
        int failed = 0;
        for (int c = 0; c < 4; c++) {
            CHECKS.due("32 " + what + " outcome of " + c, game.outcomeOf(c), reasons[c]);
            CHECKS.due("31 " + what + " moves of " + c, game.movesOf(c), movesBefore[c] + (reasons[c] == 0 ? 1 : 0));
            CHECKS.due("29 " + what + " order gone", game.hasOrder(c), false);
            failed += reasons[c] > 1 ? 1 : 0;
        }
        CHECKS.due("41 " + what + " failed", game.failedMoves(), failedBefore + failed);
    }

    private static void at(String what, CourierClash game, int... junctions) {
        for (int c = 0; c < 4; c++) {
            CHECKS.due("26 " + what + " junction of " + c, game.junctionOf(c), junctions[c]);
        }
    }

    private static void order() {
        CourierClash g = Checks.game(new int[] {0, 9}, new int[] {0, 8, 1}, new int[] {1, 7});
        CHECKS.due("9 where", g.order(0, 0), 9);
        CHECKS.due("30 street", g.orderOf(0), 0);
        CHECKS.due("9 in place", g.order(0, 1), 8);
        CHECKS.due("30 street in place", g.orderOf(0), 1);
        CHECKS.due("9 saves", g.savedStates(), 5);
        CHECKS.refused("9 courier low", g, INDEX, () -> g.order(-1, 0));
        CHECKS.refused("9 courier high", g, INDEX, () -> g.order(4, 0));
        CHECKS.refused("9 street low", g, INDEX, () -> g.order(0, -1));
        CHECKS.refused("9 street high", g, INDEX, () -> g.order(0, 3));
        CHECKS.refused("9 begins elsewhere", g, STATE, () -> g.order(0, 2));
        g.toggleStreet(0);
        CHECKS.refused("9 closed", g, STATE, () -> g.order(0, 0));
        g.toggleVan(0);
        CHECKS.refused("9 narrow", g, STATE, () -> g.order(0, 1));
        g.toggleStreet(0);
        CHECKS.due("9 wide with a van", g.order(0, 0), 9);
        due("9 goes", g, 1, 0, 1, 1, 1);
        at("9 went", g, 9, 1, 2, 3);
        CHECKS.due("40 one", g.turnsPassed(), 1);
    }

    private static void orderWhenOver() {
        CourierClash g = Checks.game(new int[] {0, 9});
        g.order(0, 0);
        g.setLimit(1);
        g.turn();
        g.place(0, 0);
        CHECKS.refused("9 over", g, STATE, () -> g.order(0, 0));
        CHECKS.refused("9 index ahead of over", g, INDEX, () -> g.order(0, 1));
        CHECKS.refused("11 over", g, STATE, g::turn);
        g.setLimit(2);
        g.order(0, 0);
        g.setLimit(1);
        CHECKS.due("51 foretold when over", g.wouldGo(0), 0);
        CHECKS.due("10 when over", g.takeBack(0), true);
        CHECKS.due("51 foretold without an order", g.wouldGo(0), 1);
        CHECKS.refused("51 low", g, INDEX, () -> g.wouldGo(-1));
        CHECKS.refused("51 high", g, INDEX, () -> g.wouldGo(4));
    }

    private static void takeBack() {
        CourierClash g = Checks.game(new int[] {3, 9}, new int[] {2, 9});
        g.order(3, 0);
        g.order(2, 1);
        CHECKS.due("10 had", g.takeBack(3), true);
        CHECKS.due("10 gone", g.hasOrder(3), false);
        CHECKS.due("10 other stays", g.orderOf(2), 1);
        CHECKS.due("10 had not", g.takeBack(3), false);
        CHECKS.due("10 saves", g.savedStates(), 5);
        g.undo();
        CHECKS.due("10 saved though nothing changed", g.hasOrder(3), false);
        g.undo();
        CHECKS.due("10 undo", g.orderOf(3), 0);
        CHECKS.refused("10 low", g, INDEX, () -> g.takeBack(-1));
        CHECKS.refused("10 high", g, INDEX, () -> g.takeBack(4));
    }

    private static void exchange() {
        CourierClash g = Checks.game(new int[] {0, 1}, new int[] {1, 0}, new int[] {2, 1});
        g.order(0, 0);
        g.order(1, 1);
        due("exchange", g, 0, 2, 2, 1, 1);
        g.order(0, 0);
        g.order(1, 1);
        g.order(2, 2);
        due("exchange and a rival", g, 0, 2, 2, 4, 1);
        at("exchange", g, 0, 1, 2, 3);
        CHECKS.due("40 turns", g.turnsPassed(), 2);
    }

    private static void circle() {
        CourierClash g = Checks.game(new int[] {0, 1}, new int[] {1, 2}, new int[] {2, 3}, new int[] {3, 0});
        for (int c = 0; c < 4; c++) {
            g.order(c, c);
        }
        due("circle", g, 4, 0, 0, 0, 0);
        at("circle", g, 1, 2, 3, 0);
    }

    private static void heavierRival() {
        CourierClash g = Checks.game(new int[] {0, 9}, new int[] {1, 9}, new int[] {2, 9});
        g.addParcel(0, 5, 3, 1);
        g.addParcel(1, 5, 2, 1);
        g.addParcel(2, 5, 2, 1);
        g.turn();
        g.order(0, 0);
        g.order(1, 1);
        g.order(2, 2);
        due("heavier", g, 1, 0, 3, 3, 1);
        at("heavier", g, 9, 1, 2, 3);
    }

    private static void rivalAsHeavy() {
        CourierClash g = Checks.game(new int[] {0, 9}, new int[] {1, 9}, new int[] {2, 9});
        g.addParcel(0, 5, 2, 1);
        g.addParcel(2, 5, 2, 1);
        g.turn();
        g.order(0, 0);
        g.order(1, 1);
        g.order(2, 2);
        // all three fail in the first round, though two of them fail by one another
        due("as heavy", g, 0, 4, 3, 4, 1);
        at("as heavy", g, 0, 1, 2, 3);
    }

    private static void oneWhoStays() {
        CourierClash g = Checks.game(new int[] {0, 1}, new int[] {2, 0}, new int[] {3, 2});
        g.order(0, 0);
        g.order(2, 1);
        g.order(3, 2);
        // the second and the third fail in later rounds, by those who failed ahead of them
        due("stays", g, 0, 5, 1, 5, 5);
        at("stays", g, 0, 1, 2, 3);
    }

    private static void roundsAreJudgedAtOnce() {
        CourierClash g = Checks.game(new int[] {0, 9}, new int[] {1, 9}, new int[] {2, 1}, new int[] {3, 1});
        g.addParcel(3, 8, 1, 1);
        g.turn();
        g.order(0, 0);
        g.order(1, 1);
        g.order(2, 2);
        g.order(3, 3);
        // 2 falls to 3 in the first round; 3 falls to 1, who stays, in the second one
        due("rounds", g, 0, 4, 4, 3, 5);
    }

    private static void exchangeWithAHeavierRival() {
        CourierClash g = Checks.game(new int[] {0, 1}, new int[] {1, 0}, new int[] {2, 1}, new int[] {3, 0});
        g.addParcel(0, 8, 5, 1);
        g.addParcel(2, 8, 4, 1);
        g.turn();
        g.order(0, 0);
        g.order(1, 1);
        g.order(2, 2);
        g.order(3, 3);
        // the heavier courier 0 fails by exchange, and yet beats 2 in the same round
        due("exchange ahead of rivals", g, 0, 2, 2, 3, 4);
        g.order(0, 0);
        g.order(1, 1);
        g.takeBack(0);
        due("exchange with one who stays", g, 0, 1, 5, 1, 1);
    }

    private static void failedOneStaysInTheNextRound() {
        CourierClash g = Checks.game(new int[] {0, 5}, new int[] {1, 5}, new int[] {2, 5}, new int[] {3, 0});
        g.place(0, 5);
        g.place(0, 0);
        g.addParcel(1, 9, 5, 1);
        g.addParcel(2, 9, 5, 2);
        g.turn();
        g.order(0, 0);
        g.order(3, 3);
        due("follows", g, 2, 0, 1, 1, 0);
        at("follows", g, 5, 1, 2, 0);
        CourierClash h = Checks.game(new int[] {1, 2}, new int[] {0, 1}, new int[] {2, 3}, new int[] {3, 8});
        h.order(0, 1);
        h.order(1, 0);
        h.order(2, 2);
        h.order(3, 3);
        due("chain", h, 4, 0, 0, 0, 0);
        at("chain", h, 1, 2, 3, 8);
    }

    private static void positionsAgain() {
        CourierClash g = Checks.game(new int[] {0, 9}, new int[] {9, 0});
        g.order(0, 0);
        g.turn();
        CHECKS.due("43 two", g.positionsNoted(), 2);
        CHECKS.due("42 one", g.timesNoted(), 1);
        g.order(0, 1);
        g.turn();
        CHECKS.due("42 two", g.timesNoted(), 2);
        CHECKS.due("44 not yet", g.whyOver(), 0);
        g.order(0, 0);
        g.turn();
        CHECKS.due("42 two there", g.timesNoted(), 2);
        g.order(0, 1);
        g.toggleVan(1);
        g.turn();
        CHECKS.due("42 three", g.timesNoted(), 3);
        CHECKS.due("43 still two", g.positionsNoted(), 2);
        CHECKS.due("44 again", g.whyOver(), 2);
        g.setLimit(4);
        CHECKS.due("44 again ahead of limit", g.whyOver(), 2);
        CHECKS.refused("11 over by positions", g, STATE, g::turn);
        CHECKS.refused("9 over by positions", g, STATE, () -> g.order(0, 0));
        g.undo();
        g.undo();
        CHECKS.due("44 undo", g.whyOver(), 0);
        CHECKS.due("42 undo", g.timesNoted(), 2);
    }

    private static void limit() {
        CourierClash g = Checks.game(new int[] {0, 9}, new int[] {9, 8}, new int[] {8, 0}, new int[] {1, 7}, new int[] {7, 1});
        g.setLimit(60);
        for (int turn = 0; turn < 60; turn++) {
            CHECKS.due("40 turns", g.turnsPassed(), turn);
            CHECKS.due("44 goes on", g.whyOver(), 0);
            g.order(0, turn % 3);
            g.turn();
            if (g.timesNoted() == 2) {
                g.place(1, g.junctionOf(1));
            }
        }
        CHECKS.due("44 limit", g.whyOver(), 3);
        CHECKS.refused("11 limit", g, STATE, g::turn);
        g.setLimit(59);
        CHECKS.due("44 more than the limit", g.whyOver(), 3);
        CHECKS.due("31 moves", g.movesOf(0), 60);
    }

    private static void allDelivered() {
        CourierClash g = Checks.game(new int[] {0, 9}, new int[] {9, 0});
        g.addParcel(0, 9, 1, 7);
        g.setLimit(2);
        g.turn();
        g.order(0, 0);
        CHECKS.due("44 not yet", g.whyOver(), 0);
        g.turn();
        CHECKS.due("44 delivered ahead of limit", g.whyOver(), 1);
        g.setLimit(3);
        CHECKS.refused("9 delivered", g, STATE, () -> g.order(0, 1));
        CHECKS.refused("11 delivered", g, STATE, g::turn);
        g.addParcel(0, 9, 1, 7);
        CHECKS.due("44 one more", g.whyOver(), 0);
        g.order(0, 1);
        due("44 goes on", g, 1, 0, 1, 1, 1);
    }
}
