import java.util.function.Consumer;

/** The terms, sentence by sentence: "Input text", "Undo, the snapshot" and which exception is the first. */
public final class TermsOfTextsTest {
    private static final Class<IndexOutOfBoundsException> INDEX = IndexOutOfBoundsException.class;
    private static final Class<IllegalArgumentException> ARGUMENT = IllegalArgumentException.class;
    private static final Class<IllegalStateException> STATE = IllegalStateException.class;
    private static final Checks CHECKS = new Checks();

    public static void main(String[] args) {
        atMostSixtyCharacters();
        codes33To126();
        oneOrMoreParts();
        orderParts();
        takeBackParts();
        streetParts();
        turnParts();
        noLeadingZero();
        theFirstErrorOnly();
        ofAnyLength();
        noGameBehindAnError();
        allShortTexts();
        upToTheFirstThatThrows();
        theLatestStop();
        savedByEach();
        savedThoughNothingChanges();
        savedByNothingElse();
        atMostFiveStates();
        notTheBuffer();
        notTheSnapshot();
        theFirstOfSeveralExceptions();
        CHECKS.end("TermsOfTextsTest");
    }

    /** "The buffer has at most 60 characters." */
    private static void atMostSixtyCharacters() {
        CourierClash g = new CourierClash();
        CHECKS.due("13 empty", g.clearBuffer(), 0);
        for (int length = 1; length <= 60; length++) {
            CHECKS.due("12 length", g.append(length % 2 == 0 ? ';' : 'r'), length);
        }
        CHECKS.refused("12 a 61st", g, STATE, () -> g.append('r'));
        CHECKS.due("14 all sixty can be read", g.firstError(), 60);
        CHECKS.due("13 sixty", g.clearBuffer(), 60);
        CHECKS.due("12 room again", g.append('r'), 1);
        CHECKS.due("13 one", g.clearBuffer(), 1);
    }

    private static void codes33To126() {
        CourierClash g = new CourierClash();
        for (int code = 33; code <= 126; code++) {
            long empty = g.digest();
            CHECKS.due("12 code", g.append(code), 1);
            CHECKS.due("54 its length and code", g.digest(), 31L * (empty + 1) + code);
            CHECKS.due("14 one character", g.firstError(), "ostr".indexOf(code) >= 0 ? 1 : 0);
            g.clearBuffer();
        }
        for (int bad : new int[] {32, 127, 0, -1, 128, 289, Integer.MIN_VALUE, Integer.MAX_VALUE}) {
            CHECKS.refused("12 code " + bad, g, ARGUMENT, () -> g.append(bad));
        }
    }

    private static void notComplete(String text) {
        CourierClash g = Checks.town("01 12");
        Checks.type(g, text);
        CHECKS.refused("15 not complete " + text, g, ARGUMENT, g::play);
        CHECKS.due("13 stays " + text, g.clearBuffer(), text.length());
        CHECKS.due("21 nothing saved " + text, g.savedStates(), 2);
    }

    /** "A game as a text is one or more parts with ";" between them" */
    private static void oneOrMoreParts() {
        notComplete("");
        notComplete(";");
        notComplete("s0;");
        notComplete(";s0");
        notComplete("s0;;s0");
        notComplete("s0s0");
        notComplete("s0;s0;");
        CourierClash g = new CourierClash();
        CHECKS.due("15 one", Checks.played(g, "s0"), 1);
        CHECKS.due("15 two", Checks.played(g, "s0;s0"), 2);
        CHECKS.due("15 twenty", Checks.played(g, "s0;".repeat(19) + "s0"), 20);
        g.addStreet(0, 1, false);
        CHECKS.due("15 sixty characters", Checks.played(g, "s0;".repeat(18) + "o3>0;r"), 18);
        CHECKS.due("17 stopped", g.stoppedPart(), 18);
        g.setLimit(60);
        g.addParcel(5, 6, 1, 1);
        CHECKS.due("15 most parts", Checks.played(g, "r;".repeat(29) + "r"), 2);
        CHECKS.due("17 over by the position", g.stoppedPart(), 2);
    }

    /** ""o", a courier, 0 to 3, ">", and a street, 0 to 23" */
    private static void orderParts() {
        for (int s = 0; s < 24; s++) {
            for (int c = 0; c < 4; c++) {
                CourierClash g = Checks.fullTown();
                g.place(c, Checks.fullTownFrom(s));
                CHECKS.due("15 order", Checks.played(g, "o" + c + ">" + s), 1);
                CHECKS.due("30 order", g.orderOf(c), s);
                CHECKS.due("16 order", g.hasStopped(), false);
            }
        }
        for (int c = 0; c < 4; c++) {
            CourierClash few = Checks.town(c + "9");
            CHECKS.due("15 fewer streets than couriers", Checks.played(few, "o" + c + ">0"), 1);
            CHECKS.due("30 the only street", few.orderOf(c), 0);
        }
        for (String text : new String[] {"o", "o0", "o0>", "o4>0", "o0>24", "o0>-1", "o>0", "o0>0>0", "00>0"}) {
            notComplete(text);
        }
    }

    /** ""s" and a courier (its order is taken back; nothing happens, if it has none)" */
    private static void takeBackParts() {
        for (int c = 0; c < 4; c++) {
            CourierClash g = Checks.town("09 19 29 39");
            Checks.orders(g, 0, 1, 2, 3);
            CHECKS.due("15 taken back", Checks.played(g, "s" + c), 1);
            for (int other = 0; other < 4; other++) {
                CHECKS.due("29 only its own", g.hasOrder(other), other != c);
            }
            CHECKS.due("15 has none", Checks.played(g, "s" + c + ";s" + c), 2);
            CHECKS.due("16 does not stop", g.hasStopped(), false);
        }
        for (String text : new String[] {"s", "s4", "s-1", "s00", "s0>0"}) {
            notComplete(text);
        }
    }

    /** ""t" and a street (it is closed, or opened, if it is closed)" */
    private static void streetParts() {
        CourierClash g = Checks.fullTown();
        for (int s = 0; s < 24; s++) {
            CHECKS.due("15 closed", Checks.played(g, "t" + s), 1);
            CHECKS.due("25 closed", g.isOpen(s), false);
            CHECKS.due("25 no other", g.isOpen((s + 1) % 24), true);
            CHECKS.due("15 opened", Checks.played(g, "t" + s), 1);
            CHECKS.due("25 opened", g.isOpen(s), true);
        }
        for (String text : new String[] {"t", "t24", "t30", "t99", "t100", "t-1", "t0>0"}) {
            notComplete(text);
        }
    }

    /** "or "r" (a turn)" */
    private static void turnParts() {
        CourierClash g = Checks.town("09 90");
        CHECKS.due("15 three turns", Checks.played(g, "o0>0;r;o0>1;r;o0>0;r"), 6);
        CHECKS.due("40 three", g.turnsPassed(), 3);
        CHECKS.due("31 three", g.movesOf(0), 3);
        CHECKS.due("42 noted behind each", g.timesNoted(), 2);
        CHECKS.due("43 noted behind each", g.positionsNoted(), 2);
        notComplete("r0");
        notComplete("R");
    }

    private static void noLeadingZero() {
        for (int s = 0; s <= 9; s++) {
            notComplete("t0" + s);
            notComplete("o0>0" + s);
        }
        CourierClash g = Checks.town("01");
        Checks.type(g, "t00");
        CHECKS.due("14 the second zero", g.firstError(), 2);
        g.clearBuffer();
        Checks.type(g, "t0");
        CHECKS.due("14 zero itself", g.firstError(), 2);
    }

    private static void error(String text, int index) {
        CourierClash g = Checks.town("");
        Checks.type(g, text);
        long before = g.digest();
        CHECKS.due("14 " + text, g.firstError(), index);
        CHECKS.due("14 changes nothing " + text, g.digest(), before);
    }

    /** "a character is a syntax error if no game .. begins with the characters before it and this character" */
    private static void theFirstErrorOnly() {
        error("", 0);
        error("xx", 0);
        error("rxx", 1);
        error("x;r", 0);
        error("t24;r", 2);
        error("t2;4", 3);
        error("r;r;r;r;x", 8);
        error("o9>9", 1);
        error("o0>0;o0>0;o0>0;o0>0;o0>0;o0>0;o0>0;o0>0;o0>0;o0>0;o0>0;o0>0", 59);
        error("t23;".repeat(14) + "t23", 59);
    }

    /** "of any length": also when nothing fits in behind the last character. */
    private static void ofAnyLength() {
        String almost = "t0;".repeat(19);
        for (String end : new String[] {"r;o", "r;s", "r;t", "r;r", "o0>", "t1;", "t10", "t2;", "t23", "s0;"}) {
            CourierClash g = Checks.town("01");
            Checks.type(g, almost + end);
            CHECKS.due("14 no error at the end " + end, g.firstError(), 60);
            CHECKS.refused("12 full " + end, g, STATE, () -> g.append('0'));
            if (";>ost".indexOf(end.charAt(2)) >= 0) {
                CHECKS.refused("15 not complete " + end, g, ARGUMENT, g::play);
                CHECKS.due("13 stays " + end, g.clearBuffer(), 60);
            } else {
                CHECKS.due("15 complete " + end, Checks.answer(g::play) instanceof Integer, true);
                CHECKS.due("13 cleared " + end, g.clearBuffer(), 0);
            }
        }
        error(almost + "r;;", 59);
        error(almost + "o0;", 59);
        error(almost + "t24", 59);
    }

    /** Whatever stands behind an error, what is read there is no game any more. */
    private static void noGameBehindAnError() {
        String[] errors = {"x", "xx", "xxx", "0", ">", ";", "o4", "o0-", "o0>x", "s4", "t24", "t00", "rr", "r;;", "r;x"};
        String[] ends = {"r", "s0", "t0", "o0>0", "0>0", ">0", "0", "1", ";r", ";s0", ";t1", ";o0>1"};
        for (String begin : errors) {
            for (String end : ends) {
                notComplete(begin + end);
                CourierClash g = Checks.town("01 12");
                Checks.type(g, begin + end);
                CHECKS.due("14 before its end " + begin + end, g.firstError() < begin.length(), true);
            }
        }
    }

    /** All texts of up to four of these characters, read and played beside the plain program. */
    private static void allShortTexts() {
        String signs = "ostr>;012349";
        int differing = 0;
        int texts = 0;
        for (int length = 0; length <= 4; length++) {
            int count = (int) Math.round(Math.pow(signs.length(), length));
            for (int number = 0; number < count; number++) {
                CourierClash g = Checks.town("01 12");
                PlainClash plain = new PlainClash();
                plain.addStreet(0, 1, false);
                plain.addStreet(1, 2, false);
                for (int i = 0, rest = number; i < length; i++, rest /= signs.length()) {
                    g.append(signs.charAt(rest % signs.length()));
                    plain.append(signs.charAt(rest % signs.length()));
                }
                boolean same = g.firstError() == plain.firstError()
                        && Checks.answer(g::play).equals(Checks.answer(plain::play)) && g.digest() == plain.digest();
                differing += same ? 0 : 1;
                texts++;
            }
        }
        CHECKS.due("14 and 15 of all short texts those that differ", differing, 0);
        CHECKS.due("14 and 15 all short texts", texts, 1 + 12 + 144 + 1728 + 20736);
    }

    private static void stops(String what, CourierClash g, String text, int part) {
        CHECKS.due("15 " + what, Checks.played(g, text), part);
        CHECKS.due("16 " + what, g.hasStopped(), true);
        CHECKS.due("17 " + what, g.stoppedPart(), part);
        CHECKS.due("13 " + what, g.clearBuffer(), 0);
    }

    /** "part by part, up to the first part for which the method would throw an exception" */
    private static void upToTheFirstThatThrows() {
        stops("no such street", Checks.town(""), "o0>0", 0);
        stops("no such street to close", Checks.town("01"), "t0;t1;t0", 1);
        stops("no such street behind the last", Checks.fullTown(), "t23;t0;o0>23", 2);
        stops("begins elsewhere", Checks.town("01 12"), "o0>0;o0>1", 1);
        stops("closed by a part before", Checks.town("01"), "t0;o0>0", 1);
        CourierClash van = Checks.town("01n");
        van.toggleVan(0);
        stops("narrow", van, "s0;s1;o0>0", 2);
        stops("over", Checks.town("01"), "r;r;r", 2);
        stops("over for orders", Checks.town("01"), "r;r;o0>0", 2);
        CourierClash g = Checks.town("09 98");
        stops("in the middle", g, "o0>0;r;o0>0;r;r", 2);
        CHECKS.due("15 done ahead of it", g.junctionOf(0), 9);
        CHECKS.due("15 not done behind it", g.turnsPassed(), 1);
        CHECKS.due("21 as one call", g.savedStates(), 3);
        g.undo();
        CHECKS.due("18 as one call", g.junctionOf(0), 0);
    }

    /** "the latest call of play() that did not throw an exception"; "false without such a call" */
    private static void theLatestStop() {
        CourierClash g = Checks.town("01");
        CHECKS.due("16 no call", g.hasStopped(), false);
        CHECKS.refused("17 no call", g, STATE, g::stoppedPart);
        Checks.answer(g::play);
        CHECKS.due("16 only one that threw", g.hasStopped(), false);
        stops("the first part", g, "t9", 0);
        Checks.answer(g::play);
        Checks.type(g, "s0;");
        Checks.answer(g::play);
        g.clearBuffer();
        g.turn();
        g.toggleStreet(0);
        CHECKS.due("16 still", g.hasStopped(), true);
        CHECKS.due("17 still", g.stoppedPart(), 0);
        stops("the third part", g, "s0;s0;t9", 2);
        CHECKS.due("15 to its end", Checks.played(g, "s0"), 1);
        CHECKS.due("16 no more", g.hasStopped(), false);
        CHECKS.refused("17 no more", g, STATE, g::stoppedPart);
    }

    /** A game in which each undoable call can be made, and one state is saved. */
    private static CourierClash ready() {
        CourierClash g = Checks.town("09 90");
        g.order(0, 0);
        g.keep();
        while (g.savedStates() > 0) {
            g.undo();
        }
        g.restore();
        CHECKS.due("21 one saved", g.savedStates(), 1);
        return g;
    }

    private static void saves(String what, Consumer<CourierClash> call) {
        CourierClash g = ready();
        long before = g.digest();
        call.accept(g);
        CHECKS.due("21 saved by " + what, g.savedStates(), 2);
        CHECKS.due("18 left, " + what, g.undo(), 1);
        CHECKS.due("18 all as before, " + what, g.digest(), before);
    }

    /** "Each method that is marked "undoable" and does not throw an exception saves the state from before it" */
    private static void savedByEach() {
        saves("addStreet", g -> g.addStreet(5, 6, true));
        saves("toggleStreet", g -> g.toggleStreet(0));
        saves("place", g -> g.place(0, 5));
        saves("toggleVan", g -> g.toggleVan(0));
        saves("setCapacity", g -> g.setCapacity(9));
        saves("addParcel", g -> g.addParcel(0, 9, 1, 1));
        saves("setLimit", g -> g.setLimit(1));
        saves("order", g -> g.order(0, 0));
        saves("takeBack", g -> g.takeBack(0));
        saves("turn", CourierClash::turn);
        saves("play", g -> Checks.played(g, "t0;r;r"));
        saves("restore", CourierClash::restore);
    }

    /** "(also if it changes nothing)" */
    private static void savedThoughNothingChanges() {
        saves("place where it is", g -> g.place(3, 3));
        saves("the same capacity", g -> g.setCapacity(5));
        saves("the same limit", g -> g.setLimit(40));
        saves("no order to take back", g -> g.takeBack(2));
        saves("play with nothing done", g -> Checks.played(g, "t9"));
        saves("play of nothing to take back", g -> Checks.played(g, "s2"));
        saves("a turn of nobody", CourierClash::turn);
        CourierClash g = Checks.town("");
        g.keep();
        g.restore();
        CHECKS.due("21 restore of the same", g.savedStates(), 1);
        CourierClash same = Checks.town("01");
        same.order(0, 0);
        same.order(0, 0);
        CHECKS.due("21 the same order", same.savedStates(), 3);
        CHECKS.due("18 the same order", same.undo(), 2);
        CHECKS.due("30 there still", same.orderOf(0), 0);
    }

    private static void savedByNothingElse() {
        CourierClash g = ready();
        Checks.type(g, "r");
        g.firstError();
        g.clearBuffer();
        g.keep();
        g.digest();
        g.wouldGo(0);
        Checks.answer(() -> g.addStreet(0, 9, false));
        Checks.answer(() -> g.toggleStreet(2));
        Checks.answer(() -> g.place(0, 1));
        Checks.answer(() -> g.toggleVan(4));
        Checks.answer(() -> g.setCapacity(0));
        Checks.answer(() -> g.addParcel(0, 0, 1, 1));
        Checks.answer(() -> g.setLimit(0));
        Checks.answer(() -> g.order(0, 1));
        Checks.answer(() -> g.takeBack(4));
        Checks.answer(g::play);
        CHECKS.due("21 one still", g.savedStates(), 1);
        CourierClash over = Checks.town("");
        over.turn();
        over.turn();
        Checks.answer(over::turn);
        Checks.answer(over::restore);
        CHECKS.due("21 two still", over.savedStates(), 2);
    }

    /** "At most 5 states are saved; the oldest one is dropped first." */
    private static void atMostFiveStates() {
        CourierClash g = new CourierClash();
        CHECKS.refused("18 none", g, STATE, g::undo);
        for (int limit = 1; limit <= 20; limit++) {
            g.setLimit(limit);
            CHECKS.due("21 at most five", g.savedStates(), Math.min(limit, 5));
        }
        for (int left = 4; left >= 0; left--) {
            CHECKS.due("18 left", g.undo(), left);
            CHECKS.due("8 the latest first", g.setLimit(60), 15 + left);
            g.undo();
        }
        CHECKS.refused("18 the oldest are dropped", g, STATE, g::undo);
        g.setLimit(50);
        CHECKS.due("21 one again", g.savedStates(), 1);
    }

    /** "all .. but the buffer": it stays as it is then. */
    private static void notTheBuffer() {
        CourierClash g = Checks.town("01");
        Checks.type(g, "r");
        g.keep();
        g.turn();
        Checks.type(g, ";r");
        g.undo();
        CHECKS.due("18 stays", g.clearBuffer(), 3);
        Checks.type(g, "r;s0;r");
        g.restore();
        CHECKS.due("20 stays", g.firstError(), 6);
        CHECKS.due("15 all of it", g.play(), 3);
        g.undo();
        CHECKS.due("18 stays empty", g.clearBuffer(), 0);
    }

    /** "all .. but .. the saved states and the snapshot" */
    private static void notTheSnapshot() {
        CourierClash g = Checks.town("");
        g.setLimit(7);
        g.keep();
        g.setLimit(8);
        CHECKS.due("18 ahead of the snapshot", g.undo(), 1);
        CHECKS.due("18 and further", g.undo(), 0);
        CHECKS.due("20 the snapshot is there", g.restore(), 0);
        CHECKS.due("20 one saved, not those of then", g.savedStates(), 1);
        CHECKS.due("8 of the snapshot", g.setLimit(9), 7);
        g.keep();
        CHECKS.due("20 in place of the one before", g.restore(), 0);
        CHECKS.due("8 of the new snapshot", g.setLimit(10), 9);
        g.undo();
        g.undo();
        g.undo();
        CHECKS.due("20 the new one stays by undo", g.restore(), 0);
        CHECKS.due("8 of the new snapshot again", g.setLimit(11), 9);
    }

    /** "If several exceptions apply, the one that is named first in the throws clause is thrown." */
    private static void theFirstOfSeveralExceptions() {
        CourierClash g = Checks.fullTown();
        for (int p = 0; p < 8; p++) {
            g.addParcel(0, 9, 1, 1);
        }
        g.turn();
        g.setLimit(1);
        Checks.type(g, "r;".repeat(30));
        CHECKS.refused("2 index, argument, state", g, INDEX, () -> g.addStreet(10, 10, false));
        CHECKS.refused("2 index, argument, state below", g, INDEX, () -> g.addStreet(-1, -1, false));
        CHECKS.refused("2 argument, state", g, ARGUMENT, () -> g.addStreet(9, 9, false));
        CHECKS.refused("2 index, state", g, INDEX, () -> g.addStreet(9, 10, false));
        CHECKS.refused("4 index, state", g, INDEX, () -> g.place(4, 3));
        CHECKS.refused("6 argument, state", g, ARGUMENT, () -> g.setCapacity(0));
        CHECKS.refused("6 state", g, STATE, () -> g.setCapacity(1));
        CHECKS.refused("7 index, argument, state", g, INDEX, () -> g.addParcel(10, 10, 0, 0));
        CHECKS.refused("7 index, argument by weight, state", g, INDEX, () -> g.addParcel(0, 10, 6, 10));
        CHECKS.refused("7 argument by weight, state", g, ARGUMENT, () -> g.addParcel(0, 9, 6, 1));
        CHECKS.refused("7 argument by value, state", g, ARGUMENT, () -> g.addParcel(0, 9, 1, 10));
        CHECKS.refused("7 argument by target, state", g, ARGUMENT, () -> g.addParcel(9, 9, 1, 1));
        CHECKS.refused("9 index by courier, state", g, INDEX, () -> g.order(4, 0));
        CHECKS.refused("9 index by street, state", g, INDEX, () -> g.order(0, 24));
        CHECKS.refused("12 argument, state", g, ARGUMENT, () -> g.append(127));
        CHECKS.refused("30 index, state", g, INDEX, () -> g.orderOf(4));
        CHECKS.refused("36 index, state", g, INDEX, () -> g.courierOf(8));
        CHECKS.refused("48 index by courier, state", g, INDEX, () -> g.nextStreet(4, 3));
        CHECKS.refused("48 index by junction, state", g, INDEX, () -> g.nextStreet(3, 10));
        CHECKS.refused("49 index, state", g, INDEX, () -> g.bestParcel(4));
        CHECKS.refused("49 state", g, STATE, () -> g.bestParcel(3));
    }
}
