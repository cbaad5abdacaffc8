import java.lang.reflect.InvocationTargetException;
import java.lang.reflect.Method;
import java.util.ArrayList;
import java.util.Arrays;
import java.util.Comparator;
import java.util.List;
import java.util.Random;
import java.util.TreeMap;

/** Random runs of calls, each answered by CourierClash and by PlainClash, which must answer alike. */
public final class ModelTest {
    private static final int RUNS = 5000;
    /** What an object answers behind as many calls is free. */
    private static final int CALLS = 512;
    /** As many calls, digests among them, as one step can need. */
    private static final int STEP = 80;
    private static final Checks CHECKS = new Checks();
    private static final List<Method> FACE = new ArrayList<>();
    private static final TreeMap<String, Method> PLAIN = new TreeMap<>();
    private static final TreeMap<String, Integer> MET = new TreeMap<>();

    private final Random random;
    private final CourierClash game = new CourierClash();
    private final PlainClash plain = new PlainClash();
    private final StringBuilder told = new StringBuilder();
    /** The digest is compared behind each so many calls: the fewer digests, the more other calls there can be. */
    private final int callsADigest;
    private int calls = 0;

    private ModelTest(long seed) {
        random = new Random(seed);
        callsADigest = random.nextInt(3) == 0 ? 1 : 2 + random.nextInt(20);
    }

    public static void main(String[] args) throws ReflectiveOperationException {
        for (Method method : CourierClash.class.getDeclaredMethods()) {
            if (java.lang.reflect.Modifier.isPublic(method.getModifiers())) {
                FACE.add(method);
                Method twin = PlainClash.class.getDeclaredMethod(method.getName(), method.getParameterTypes());
                PLAIN.put(method.getName(), twin);
            }
        }
        FACE.sort(Comparator.comparing(Method::getName));
        int wrong = 0;
        for (int run = 0; run < RUNS && wrong < 5; run++) {
            wrong += new ModelTest(run).run() ? 0 : 1;
        }
        if (args.length > 0) {
            System.out.println(MET);
        }
        CHECKS.due("runs that differ", wrong, 0);
        everythingWasMet();
        CHECKS.end("ModelTest");
    }

    /** What the runs must have come to, so that their likeness says something. */
    private static void everythingWasMet() {
        List<String> wanted = new ArrayList<>();
        for (int reason = 0; reason <= 5; reason++) {
            wanted.add("wouldGo=" + reason);
            wanted.add("outcomeOf=" + reason);
        }
        for (int reason = 0; reason <= 3; reason++) {
            wanted.add("whyOver=" + reason);
        }
        for (int reason = 0; reason <= 4; reason++) {
            wanted.add("whyNoOrder=" + reason);
            wanted.add("turn=" + reason);
        }
        for (Method method : FACE) {
            for (Class<?> refusal : method.getExceptionTypes()) {
                wanted.add(method.getName() + "=" + refusal.getSimpleName());
            }
        }
        wanted.add("stoppedPart=0");
        wanted.add("stoppedPart=3");
        wanted.add("play=3");
        for (String want : wanted) {
            CHECKS.due("met often: " + want, MET.getOrDefault(want, 0) > 0, true);
        }
    }

    private boolean run() throws ReflectiveOperationException {
        boolean onlyStreets = random.nextInt(3) > 0;
        for (int i = 0; onlyStreets && i < 16; i++) {
            if (!call("addStreet", junction(), junction(), random.nextInt(4) == 0)) {
                return false;
            }
        }
        int most = random.nextInt(4) > 0 ? CALLS : CALLS / 2;
        while (calls + STEP <= most) {
            if (!goOn() || !step()) {
                return false;
            }
        }
        while (calls + 4 <= most) {
            if (!anyCall()) {
                return false;
            }
        }
        boolean right = call("digest");
        CHECKS.due("calls of one object", calls <= CALLS, true);
        return right;
    }

    /** Games that are over would have little to tell, so most of them are made to go on. */
    private boolean goOn() throws ReflectiveOperationException {
        int why = plain.whyOver();
        if (why == 0 || random.nextInt(4) > 0) {
            return true;
        }
        if (why == 1) {
            return call("addParcel", 0, 9, 1 + random.nextInt(5), 1 + random.nextInt(9));
        }
        return why == 2 ? call("place", random.nextInt(4), random.nextInt(10)) : call("setLimit", 60);
    }

    private boolean step() throws ReflectiveOperationException {
        int kind = random.nextInt(100);
        if (kind < 10) {
            return clash();
        }
        if (kind < 30) {
            return goodOrder(random.nextInt(4));
        }
        if (kind < 44) {
            return call("turn");
        }
        if (kind < 52) {
            return type();
        }
        if (kind < 58) {
            return call("addParcel", junction(), junction(), 1 + random.nextInt(5), 1 + random.nextInt(9));
        }
        if (kind < 60) {
            return call("addStreet", junction(), junction(), random.nextInt(4) == 0);
        }
        if (kind < 62) {
            return call("digest");
        }
        if (kind < 63) {
            return call("play");
        }
        if (kind < 66) {
            return call("bestParcel", random.nextInt(4));
        }
        if (kind < 68) {
            return call("nextStreet", random.nextInt(4), random.nextInt(10));
        }
        return anyCall();
    }

    private boolean anyCall() throws ReflectiveOperationException {
        Method method = FACE.get(random.nextInt(FACE.size()));
        boolean rare = List.of("place", "undo", "restore", "clearBuffer", "setLimit").contains(method.getName());
        return rare && random.nextInt(3) > 0 || call(method.getName(), arguments(method));
    }

    private int junction() {
        return random.nextInt(30) == 0 ? odd() : random.nextInt(10) % (random.nextBoolean() ? 10 : 6);
    }

    private int odd() {
        int[] odd = {-1, 4, 8, 10, 24, 32, 61, 127, Integer.MIN_VALUE, Integer.MAX_VALUE};
        return odd[random.nextInt(odd.length)];
    }

    /** Orders for all, foretold, and the turn. */
    private boolean clash() throws ReflectiveOperationException {
        boolean right = true;
        for (int courier = 0; courier < 4 && right; courier++) {
            right = random.nextInt(6) == 0 || goodOrder(courier);
        }
        for (int courier = 0; courier < 4 && right; courier++) {
            right = call("wouldGo", courier);
        }
        right = right && call("turn");
        for (int courier = 0; courier < 4 && right; courier++) {
            right = call("outcomeOf", courier);
        }
        return right;
    }

    private boolean goodOrder(int courier) throws ReflectiveOperationException {
        List<Integer> streets = new ArrayList<>();
        for (int s = 0; s < plain.streets(); s++) {
            if (plain.fromOf(s) == plain.junctionOf(courier)) {
                streets.add(s);
            }
        }
        if (streets.isEmpty()) {
            return true;
        }
        int street = streets.get(random.nextInt(streets.size()));
        return call("whyNoOrder", courier, street) && call("order", courier, street);
    }

    private boolean type() throws ReflectiveOperationException {
        StringBuilder text = new StringBuilder();
        for (int parts = random.nextInt(6); parts >= 0; parts--) {
            int courier = random.nextInt(4);
            int street = random.nextInt(Math.max(1, plain.streets()) + (random.nextInt(5) == 0 ? 9 : 0));
            for (int s = 0; s < plain.streets(); s++) {
                street = random.nextInt(3) == 0 && plain.fromOf(s) == plain.junctionOf(courier) ? s : street;
            }
            String[] kinds = {"o" + courier + ">" + street, "s" + courier, "t" + street, "r", "r"};
            text.append(kinds[random.nextInt(2) == 0 ? 0 : random.nextInt(5)]).append(parts > 0 ? ";" : "");
        }
        if (random.nextInt(6) == 0) {
            int at = random.nextInt(text.length());
            text.setCharAt(at, "osrt>;0123459!~".charAt(random.nextInt(15)));
        }
        boolean right = random.nextInt(4) == 0 || call("clearBuffer");
        for (int i = 0; i < text.length() && right; i++) {
            right = call("append", (int) text.charAt(i));
        }
        return right && call("firstError") && (random.nextInt(4) == 0 || call("play"));
    }

    private Object[] arguments(Method method) {
        Object[] arguments = new Object[method.getParameterCount()];
        for (int i = 0; i < arguments.length; i++) {
            if (method.getParameterTypes()[i] == boolean.class) {
                arguments[i] = random.nextBoolean();
            } else if (method.getName().equals("append")) {
                arguments[i] = "osrt>;0123456789 ".charAt(random.nextInt(17)) + 0;
            } else {
                arguments[i] = random.nextInt(8) == 0 ? odd() : random.nextInt(random.nextBoolean() ? 4 : 12);
            }
        }
        return arguments;
    }

    private boolean call(String name, Object... arguments) throws ReflectiveOperationException {
        Method plainMethod = PLAIN.get(name);
        Object want = answer(plainMethod, plain, arguments);
        Method method = CourierClash.class.getDeclaredMethod(name, plainMethod.getParameterTypes());
        Object got = answer(method, game, arguments);
        told.append(name).append(Arrays.toString(arguments)).append(" -> ").append(got).append('\n');
        MET.merge(name + "=" + got, 1, Integer::sum);
        calls++;
        long wantDigest = calls % callsADigest == 0 ? plain.digest() : 0;
        long gotDigest = calls % callsADigest == 0 ? game.digest() : 0;
        calls += calls % callsADigest == 0 ? 1 : 0;
        if (want.equals(got) && gotDigest == wantDigest) {
            return true;
        }
        System.out.println(told + "due is " + want + ", digest " + gotDigest + ", due is " + wantDigest);
        return false;
    }

    private static Object answer(Method method, Object object, Object[] arguments) throws ReflectiveOperationException {
        try {
            return method.invoke(object, arguments);
        } catch (InvocationTargetException e) {
            return e.getCause().getClass().getSimpleName();
        }
    }
}
