import java.util.function.Supplier;

/** Counts answers that are due and answers that are not; each test program ends with its report. */
final class Checks {
    private int passed = 0;
    private int failed = 0;

    void due(String what, Object got, Object want) {
        if (want.equals(got)) {
            passed++;
        } else {
            failed++;
            System.out.println("NOT DUE " + what + ": answered " + got + ", due is " + want);
        }
    }

    /** The call throws exactly this exception, and changes nothing. */
    void refused(String what, CourierClash game, Class<? extends RuntimeException> want, Supplier<Object> call) {
        long before = game.digest();
        Object got = answer(call);
        due(what, got, want.getSimpleName());
        due(what + " changes nothing", game.digest(), before);
    }

    /** What a call answers, or the simple name of the exception that it throws. */
    static Object answer(Supplier<Object> call) {
        try {
            return call.get();
        } catch (RuntimeException e) {
            return e.getClass().getSimpleName();
        }
    }

    static CourierClash game(int[]... streets) {
        CourierClash game = new CourierClash();
        for (int[] street : streets) {
            game.addStreet(street[0], street[1], street.length > 2);
        }
        return game;
    }

    static void type(CourierClash game, String text) {
        for (int i = 0; i < text.length(); i++) {
            game.append(text.charAt(i));
        }
    }

    static int played(CourierClash game, String text) {
        type(game, text);
        return game.play();
    }

    void end(String name) {
        System.out.println(name + ": " + passed + " answers as due, " + failed + " not");
        if (failed != 0 || passed == 0) {
            System.exit(1);
        }
    }
}
