import java.util.function.Supplier;

/** Counts answers that are due and answers that are not; each test program ends with its report. */
final class Checks {
    private int passed = 0;
    private int failed = 0;

    void due(String what, Object got, Object want) {
        if (want.equals(got)) {
            passed++;
        } else {
            failed++;
            System.out.println("NOT DUE " + what + ": answered " + got + ", due is " + want);
        }
    }

    /** The call answers this, whether it throws or not. */
    void answered(String what, Supplier<Object> call, Object want) {
        due(what, answer(call), want);
    }

    /** The call throws exactly this exception, and changes nothing. */
    void refused(String what, CourierClash game, Class<? extends RuntimeException> want, Supplier<Object> call) {
        long before = game.digest();
        Object got = answer(call);
        due(what, got, want.getSimpleName());
        due(what + " changes nothing", game.digest(), before);
    }

    /** What a call answers, or the simple name of the exception that it throws. */
    static Object answer(Supplier<Object> call) {
        try {
            return call.get();
        } catch (RuntimeException e) {
            return e.getClass().getSimpleName();
        }
    }

    static CourierClash game(int[]... streets) {
        CourierClash game = new CourierClash();
        for (int[] street : streets) {
            game.addStreet(street[0], street[1], street.length > 2);
        }
        return game;
    }

    /** A new game with streets as a text: "01" leads from the junction 0 to 1, and "12n" is narrow. */
    static CourierClash town(String streets) {
        CourierClash game = new CourierClash();
        for (String street : streets.split(" ")) {
            if (!street.isEmpty()) {
                game.addStreet(street.charAt(0) - '0', street.charAt(1) - '0', street.endsWith("n"));
            }
        }
        return game;
    }

    /** A game with as many streets as there can be; every other one is narrow. */
    static CourierClash fullTown() {
        CourierClash game = new CourierClash();
        for (int s = 0; s < 24; s++) {
            game.addStreet(fullTownFrom(s), fullTownTo(s), s % 2 == 1);
        }
        return game;
    }

    static int fullTownFrom(int street) {
        return 9 - street / 9;
    }

    static int fullTownTo(int street) {
        return street % 9 < fullTownFrom(street) ? street % 9 : street % 9 + 1;
    }

    /** Orders for the first couriers, in their order; -1 stands for none. */
    static void orders(CourierClash game, int... streets) {
        for (int c = 0; c < streets.length; c++) {
            if (streets[c] >= 0) {
                game.order(c, streets[c]);
            }
        }
    }

    static void type(CourierClash game, String text) {
        for (int i = 0; i < text.length(); i++) {
            game.append(text.charAt(i));
        }
    }

    static int played(CourierClash game, String text) {
        type(game, text);
        return game.play();
    }

    void end(String name) {
        System.out.println(name + ": " + passed + " answers as due, " + failed + " not");
        if (failed != 0 || passed == 0) {
            System.exit(1);
        }
    }
}
