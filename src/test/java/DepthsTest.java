import java.lang.reflect.InvocationTargetException;
import java.lang.reflect.Method;
import java.lang.reflect.Modifier;
import java.util.ArrayList;
import java.util.Arrays;
import java.util.Comparator;
import java.util.List;
import java.util.Set;
import java.util.function.Consumer;
import java.util.function.Supplier;

/**
 * What a digest does not tell too: a refused call changes nothing, a look changes nothing, and undo takes back all that
 * an undoable call did; for every call of the face, with arguments inside and outside all bounds, in several games.
 */
public final class DepthsTest {
    private static final Checks CHECKS = new Checks();
    private static final Set<String> UNDOABLE = Set.of("addStreet", "toggleStreet", "place", "toggleVan", "setCapacity",
            "addParcel", "setLimit", "order", "takeBack", "turn", "play", "restore");
    private static final Set<String> OTHER_CHANGES = Set.of("append", "clearBuffer", "undo", "keep");
    private static final int[] MANY = {Integer.MIN_VALUE, -1, 0, 1, 2, 3, 4, 5, 7, 8, 9, 10, 23, 24, 32, 33, 60, 61, 126,
        127, Integer.MAX_VALUE};
    private static final int[] SOME = {Integer.MIN_VALUE, -1, 0, 1, 3, 4, 8, 9, 10, 23, 24, Integer.MAX_VALUE};

    public static void main(String[] args) throws ReflectiveOperationException {
        depthsTellSettings();
        gamesAsTheyAreTold();
        everyCall("new", CourierClash::new);
        everyCall("busy", DepthsTest::busy);
        everyCall("full", DepthsTest::full);
        everyCall("over", DepthsTest::over);
        CHECKS.end("DepthsTest");
    }

    /** Orders, loads, a stop, notes, a snapshot that is not the state of now, a buffer that is a game. */
    private static CourierClash busy() {
        CourierClash g = Checks.town("09 90 18n 81 24 37");
        g.addParcel(0, 9, 2, 3);
        g.addParcel(2, 8, 2, 3);
        g.addParcel(8, 9, 5, 9);
        g.keep();
        g.turn();
        g.setCapacity(3);
        g.setLimit(50);
        g.order(0, 0);
        g.order(2, 4);
        Checks.played(g, "r;s0;o1>2;t9");
        while (g.savedStates() > 2) {
            g.undo();
        }
        Checks.played(g, "o0>0;r;t9;r");
        g.order(0, 1);
        Checks.type(g, "o1>2;r;t3");
        return g;
    }

    /** As many streets, parcels, saved states and characters as there can be. */
    private static CourierClash full() {
        CourierClash g = Checks.fullTown();
        for (int p = 0; p < 8; p++) {
            g.addParcel(p % 4, 9, 1 + p % 5, 1 + p);
        }
        g.turn();
        g.place(0, 9);
        g.keep();
        g.toggleStreet(23);
        g.toggleVan(3);
        g.order(0, 0);
        Checks.type(g, "t23;".repeat(15));
        return g;
    }

    /** Over by the limit, with an order that is there. */
    private static CourierClash over() {
        CourierClash g = Checks.town("09 98 10 21");
        g.turn();
        g.order(1, 2);
        g.turn();
        g.place(0, 0);
        g.order(0, 0);
        g.setLimit(1);
        g.keep();
        while (g.savedStates() > 0) {
            g.undo();
        }
        g.restore();
        g.setLimit(2);
        Checks.type(g, "o0>0;");
        return g;
    }

    private static void gamesAsTheyAreTold() {
        CourierClash busy = busy();
        CHECKS.due("busy, a load", busy.loadOf(2), 2);
        CHECKS.due("busy, points", busy.pointsOf(0), 3);
        CHECKS.due("busy, an order", busy.orderOf(0), 1);
        CHECKS.due("busy, a stop", busy.stoppedPart(), 2);
        CHECKS.due("busy, notes", busy.positionsNoted(), 3);
        CHECKS.due("busy, room to save", busy.savedStates() < 5, true);
        CHECKS.due("busy, a buffer", busy.firstError(), 9);
        CourierClash full = full();
        CHECKS.due("full", List.of(full.streets(), full.parcels(), full.savedStates()), List.of(24, 8, 5));
        CHECKS.due("full, an order", full.orderOf(0), 0);
        CHECKS.due("full, a buffer", full.clearBuffer(), 60);
        CourierClash over = over();
        CHECKS.due("over", over.whyOver(), 3);
        CHECKS.due("over, an order", over.orderOf(0), 0);
        CHECKS.due("over, room to save", over.savedStates() < 5, true);
    }

    /** All that can be told of a game; each part needs a game of its own, for to ask for it changes the game. */
    private static List<Object> depths(Supplier<CourierClash> made) {
        List<Object> told = new ArrayList<>();
        savedStates(made.get(), told);
        told.addAll(depthsOfNow(made));
        return told;
    }

    /** But for the saved states. */
    private static List<Object> depthsOfNow(Supplier<CourierClash> made) {
        List<Object> told = new ArrayList<>();
        settings(made.get(), told);
        snapshot(made.get(), told);
        notesAndOrders(made.get(), told);
        buffer(made.get(), told);
        return told;
    }

    private static void savedStates(CourierClash g, List<Object> told) {
        told.add(g.digest());
        for (int left = g.savedStates(); left > 0; left--) {
            told.add(g.undo());
            told.add(g.digest());
            told.add(g.setLimit(60));
            g.undo();
            told.add(g.setCapacity(9));
            g.undo();
        }
    }

    private static void settings(CourierClash g, List<Object> told) {
        told.add(g.setLimit(60));
        told.add(g.setCapacity(9));
    }

    private static void snapshot(CourierClash g, List<Object> told) {
        told.add(Checks.answer(g::restore));
        told.add(g.digest());
        settings(g, told);
        g.turn();
        told.add(g.digest());
    }

    private static void notesAndOrders(CourierClash g, List<Object> told) {
        g.setLimit(60);
        for (int turn = 0; turn < 4; turn++) {
            told.add(Checks.answer(g::turn));
            told.add(g.digest());
            for (int s = 0; s < g.streets(); s++) {
                int street = s;
                told.add(Checks.answer(() -> g.order(0, street)));
            }
        }
    }

    private static void buffer(CourierClash g, List<Object> told) {
        told.add(g.firstError());
        told.add(Checks.answer(g::play));
        told.add(g.digest());
        told.add(g.clearBuffer());
    }

    /** The test's own test: settings are in no digest, but they are in the depths. */
    private static void depthsTellSettings() {
        List<Object> before = depths(DepthsTest::busy);
        List<Consumer<CourierClash>> changes = List.of(CourierClash::keep, CourierClash::clearBuffer, CourierClash::undo,
                g -> g.append('x'), g -> g.setLimit(49), g -> g.setCapacity(4), g -> g.takeBack(0), g -> g.place(0, 9));
        for (Consumer<CourierClash> change : changes) {
            CHECKS.due("a change is seen", depths(() -> changed(DepthsTest::busy, change)).equals(before), false);
        }
        CHECKS.due("alike", depths(DepthsTest::busy), before);
    }

    private static CourierClash changed(Supplier<CourierClash> made, Consumer<CourierClash> change) {
        CourierClash g = made.get();
        change.accept(g);
        return g;
    }

    private static void everyCall(String game, Supplier<CourierClash> made) throws ReflectiveOperationException {
        List<Object> untouched = depths(made);
        List<Object> cleared = depths(() -> changed(made, CourierClash::clearBuffer));
        List<Object> kept = depthsOfNow(() -> restored(made, g -> g.setLimit(33)));
        List<Object> keptAndCleared = depthsOfNow(() -> restored(made, DepthsTest::clearedAndChanged));
        List<Method> face = new ArrayList<>(Arrays.asList(CourierClash.class.getDeclaredMethods()));
        face.removeIf(method -> !Modifier.isPublic(method.getModifiers()));
        face.sort(Comparator.comparing(Method::getName));
        int refusals = 0;
        int looks = 0;
        int undone = 0;
        for (Method method : face) {
            String name = method.getName();
            for (Object[] arguments : argumentsOf(method)) {
                String what = game + ": " + name + Arrays.toString(arguments);
                boolean refused = call(made.get(), method, arguments) instanceof RuntimeException;
                if (refused || !UNDOABLE.contains(name) && !OTHER_CHANGES.contains(name)) {
                    refusals += refused ? 1 : 0;
                    looks += refused ? 0 : 1;
                    CHECKS.due(what + " changes nothing", depths(() -> called(made, method, arguments)), untouched);
                } else if (UNDOABLE.contains(name) && made.get().savedStates() < 5) {
                    undone++;
                    List<Object> want = name.equals("play") ? cleared : untouched;
                    CHECKS.due(what + " is undone", depths(() -> undone(made, method, arguments)), want);
                    List<Object> restored = depthsOfNow(() -> restored(made, g -> call(g, method, arguments)));
                    CHECKS.due(what + ", and all is restored", restored, name.equals("play") ? keptAndCleared : kept);
                }
            }
        }
        CHECKS.due(game + ": many were refused", refusals > 200, true);
        CHECKS.due(game + ": many were looks", looks > 50, true);
        CHECKS.due(game + ": many were undone", undone > 20 || made.get().savedStates() == 5, true);
    }

    private static CourierClash called(Supplier<CourierClash> made, Method method, Object[] arguments) {
        CourierClash g = made.get();
        call(g, method, arguments);
        return g;
    }

    private static CourierClash undone(Supplier<CourierClash> made, Method method, Object[] arguments) {
        CourierClash g = called(made, method, arguments);
        g.undo();
        return g;
    }

    private static CourierClash restored(Supplier<CourierClash> made, Consumer<CourierClash> call) {
        CourierClash g = made.get();
        g.keep();
        call.accept(g);
        g.restore();
        return g;
    }

    private static void clearedAndChanged(CourierClash g) {
        g.clearBuffer();
        g.setLimit(33);
    }

    private static Object call(CourierClash g, Method method, Object[] arguments) {
        try {
            return method.invoke(g, arguments);
        } catch (InvocationTargetException e) {
            return e.getCause();
        } catch (IllegalAccessException e) {
            throw new AssertionError(e);
        }
    }

    private static List<Object[]> argumentsOf(Method method) {
        Class<?>[] types = method.getParameterTypes();
        List<Object[]> all = new ArrayList<>();
        all.add(new Object[0]);
        for (int i = 0; i < types.length; i++) {
            List<Object[]> longer = new ArrayList<>();
            for (Object[] begun : all) {
                for (Object value : valuesOf(method, i)) {
                    Object[] more = Arrays.copyOf(begun, i + 1);
                    more[i] = value;
                    longer.add(more);
                }
            }
            all = longer;
        }
        return all;
    }

    private static List<Object> valuesOf(Method method, int index) {
        if (method.getParameterTypes()[index] == boolean.class) {
            return List.of(true, false);
        }
        if (method.getName().equals("addParcel")) {
            return index < 2 ? List.of(-1, 0, 9, 10) : index == 2 ? List.of(0, 1, 5, 6) : List.of(0, 1, 9, 10);
        }
        List<Object> values = new ArrayList<>();
        for (int value : method.getParameterCount() == 1 ? MANY : SOME) {
            values.add(value);
        }
        return values;
    }
}
