/** Promises 12 to 17: the buffer, its first error, games as texts and where they stop. */
public final class TextsTest {
    private static final Class<IllegalArgumentException> ARGUMENT = IllegalArgumentException.class;
    private static final Class<IllegalStateException> STATE = IllegalStateException.class;
    private static final Checks CHECKS = new Checks();

    public static void main(String[] args) {
        append();
        firstError();
        allCharactersBehind();
        incompleteTexts();
        playAll();
        playStops();
        stopIsUndone();
        fullBuffer();
        CHECKS.end("TextsTest");
    }

    private static void append() {
        CourierClash g = Checks.game();
        for (int code = 33; code <= 126; code++) {
            CHECKS.due("12 length", g.append(code), 1);
            CHECKS.due("13 length", g.clearBuffer(), 1);
        }
        for (int i = 1; i <= 60; i++) {
            CHECKS.due("12 length", g.append('!'), i);
        }
        CHECKS.due("12 saves nothing", g.savedStates(), 0);
        CHECKS.refused("12 full", g, STATE, () -> g.append('r'));
        CHECKS.refused("12 argument ahead of full", g, ARGUMENT, () -> g.append(32));
        CHECKS.due("13 sixty", g.clearBuffer(), 60);
        CHECKS.due("13 empty", g.clearBuffer(), 0);
        for (int bad : new int[] {32, 127, 0, -1, 256 + 'r', Integer.MIN_VALUE, Integer.MAX_VALUE}) {
            CHECKS.refused("12 code", g, ARGUMENT, () -> g.append(bad));
        }
    }

    private static void error(String text, int index) {
        CourierClash g = Checks.game();
        Checks.type(g, text);
        CHECKS.due("14 " + text, g.firstError(), index);
        CHECKS.due("14 buffer stays " + text, g.clearBuffer(), text.length());
    }

    private static void firstError() {
        error("", 0);
        error("r", 1);
        error("r;r;", 4);
        error(";r", 0);
        error("r;;", 2);
        error("rr", 1);
        error("o0>23", 5);
        error("o0>24", 4);
        error("o0>19", 5);
        error("o0>190", 5);
        error("o0>00", 4);
        error("o0>0;", 5);
        error("o0>30", 4);
        error("o4>0", 1);
        error("o>", 1);
        error("o0-", 2);
        error("o0>>", 3);
        error("o0>;", 3);
        error("o01", 2);
        error("s3", 2);
        error("s4", 1);
        error("s0;s1;s2;s3", 11);
        error("s00", 2);
        error("t9", 2);
        error("t;", 1);
        error("t24", 2);
        error("t25", 2);
        error("t100", 3);
        error("R", 0);
        error("x", 0);
        error("t5;o1>2;s0;r;xr", 13);
        error("o1>2s", 4);
        error("o1", 2);
        error("t", 1);
    }

    /** Every character behind every kind of beginning. */
    private static void allCharactersBehind() {
        String digits = "0123456789";
        String[][] allowed = {
            {"", "ostr"}, {"r", ";"}, {"r;", "ostr"}, {"o", "0123"}, {"s", "0123"}, {"o2", ">"}, {"s2", ";"},
            {"o2>", digits}, {"t", digits}, {"t0", ";"}, {"t1", digits + ";"}, {"t2", "0123;"}, {"t3", ";"},
            {"t9", ";"}, {"t10", ";"}, {"t19", ";"}, {"t20", ";"}, {"t23", ";"}, {"o3>1", digits + ";"},
            {"o3>2", "0123;"}, {"o3>23", ";"}, {"o3>4", ";"}, {"t23;", "ostr"}, {"o0>8;", "ostr"},
        };
        for (String[] row : allowed) {
            for (char code = 33; code <= 126; code++) {
                boolean right = row[1].indexOf(code) >= 0;
                error(row[0] + code, right ? row[0].length() + 1 : row[0].length());
            }
        }
    }

    private static void incompleteTexts() {
        for (String text : new String[] {"", "o", "o0", "o0>", "s", "t", "r;", "o0>1;", ";", "rx", "t24", "xr"}) {
            CourierClash g = Checks.game(new int[] {0, 1}, new int[] {0, 2});
            Checks.type(g, text);
            CHECKS.refused("15 " + text, g, ARGUMENT, g::play);
            CHECKS.due("15 buffer stays " + text, g.clearBuffer(), text.length());
        }
        for (String text : new String[] {"o0>1", "o0>10", "o0>2", "t1", "t2", "t0", "r", "s1", "r;r"}) {
            CourierClash g = Checks.game();
            Checks.type(g, text);
            CHECKS.due("15 complete " + text, Checks.answer(g::play) instanceof Integer, true);
            CHECKS.due("15 buffer cleared " + text, g.clearBuffer(), 0);
        }
    }

    private static void playAll() {
        CourierClash g = Checks.game(new int[] {0, 9}, new int[] {1, 8}, new int[] {9, 0}, new int[] {2, 7});
        g.addParcel(0, 8, 1, 1);
        int saved = g.savedStates();
        long before = g.digest();
        CHECKS.due("15 parts", Checks.played(g, "o0>0;o1>1;s1;s1;t3;t3;t3;r;o0>2"), 9);
        CHECKS.due("15 went", g.junctionOf(0), 9);
        CHECKS.due("15 taken back", g.junctionOf(1), 1);
        CHECKS.due("15 outcome", g.outcomeOf(1), 1);
        CHECKS.due("15 toggled", g.isOpen(3), false);
        CHECKS.due("15 ordered", g.orderOf(0), 2);
        CHECKS.due("15 one turn", g.turnsPassed(), 1);
        CHECKS.due("15 saved once", g.savedStates(), Math.min(5, saved + 1));
        CHECKS.due("16 not stopped", g.hasStopped(), false);
        CHECKS.refused("17 not stopped", g, STATE, g::stoppedPart);
        CHECKS.due("18 left", g.undo(), saved - 1);
        CHECKS.due("15 undone", g.junctionOf(0), 0);
        CHECKS.due("15 undone turn", g.turnsPassed(), 0);
        CHECKS.due("15 undone street", g.isOpen(3), true);
        CHECKS.due("15 buffer not undone", g.clearBuffer(), 0);
        CHECKS.due("15 digest differs by what is saved alone", g.digest() == before, false);
    }

    private static void stop(CourierClash g, String text, int part) {
        CHECKS.due("15 done " + text, Checks.played(g, text), part);
        CHECKS.due("16 stopped " + text, g.hasStopped(), true);
        CHECKS.due("17 part " + text, g.stoppedPart(), part);
        CHECKS.due("15 cleared " + text, g.clearBuffer(), 0);
    }

    private static void playStops() {
        CourierClash g = Checks.game(new int[] {0, 9}, new int[] {1, 8, 1});
        CHECKS.due("16 before", g.hasStopped(), false);
        CHECKS.refused("17 before", g, STATE, g::stoppedPart);
        stop(g, "o0>2", 0);
        stop(g, "t2;r", 0);
        stop(g, "t0;o0>0;r", 1);
        CHECKS.due("15 what was done stays", g.isOpen(0), false);
        CHECKS.due("15 nothing behind", g.turnsPassed(), 0);
        stop(g, "t0;o0>0;o1>0;r", 2);
        CHECKS.due("15 order stays", g.orderOf(0), 0);
        stop(g, "s3;s3;r;r;r;r", 5);
        CHECKS.due("15 over", g.whyOver(), 2);
        CHECKS.due("15 turns", g.turnsPassed(), 3);
        stop(g, "s0;o1>1", 1);
        CHECKS.due("15 done when over", Checks.played(g, "t1;s0"), 2);
        CHECKS.due("16 the latest alone", g.hasStopped(), false);
        stop(g, "r", 0);
        Checks.type(g, "x");
        CHECKS.refused("15 wrong text", g, ARGUMENT, g::play);
        CHECKS.due("16 as by the latest that did not throw", g.hasStopped(), true);
        g.clearBuffer();
        CourierClash h = Checks.game(new int[] {1, 8, 1});
        h.toggleVan(1);
        stop(h, "r;o1>0", 1);
    }

    private static void stopIsUndone() {
        CourierClash g = Checks.game();
        stop(g, "s0;t0", 1);
        g.keep();
        CHECKS.due("15 whole", Checks.played(g, "s0;s0;s0"), 3);
        CHECKS.due("18 undo", g.undo(), 1);
        CHECKS.due("16 stop comes back", g.hasStopped(), true);
        CHECKS.due("17 part comes back", g.stoppedPart(), 1);
        CHECKS.due("18 undo of nothing done", g.undo(), 0);
        CHECKS.due("16 no stop at first", g.hasStopped(), false);
        g.restore();
        CHECKS.due("20 stop of the snapshot", g.stoppedPart(), 1);
        stop(g, "t0", 0);
        CHECKS.due("15 saved though nothing is done", g.savedStates(), 2);
    }

    private static void fullBuffer() {
        CourierClash g = Checks.game();
        for (int to = 1; to <= 9; to++) {
            g.addStreet(0, to, false);
        }
        g.addStreet(1, 0, false);
        g.addStreet(1, 2, false);
        Checks.type(g, "t0;".repeat(19) + "t10");
        CHECKS.due("14 sixty", g.firstError(), 60);
        CHECKS.refused("12 sixty", g, STATE, () -> g.append('0'));
        CHECKS.due("15 sixty", g.play(), 20);
        CHECKS.due("15 nineteen times", g.isOpen(0), false);
        CHECKS.due("15 the last one", g.isOpen(10), false);
        CHECKS.due("15 saved once", g.undo(), 4);
        CHECKS.due("15 undone as one", g.isOpen(0) && g.isOpen(10), true);
        stop(g, "r;".repeat(29) + "s0", 2);
    }
}
