import java.util.ArrayDeque;
import java.util.ArrayList;
import java.util.Arrays;
import java.util.Collections;
import java.util.Comparator;
import java.util.HashSet;
import java.util.List;
import java.util.TreeMap;
import java.util.regex.Pattern;

/** A second program of the document's rules, written for plainness with the Java library, to test the first one by. */
final class PlainClash {
    private static final String STREET = "(1?[0-9]|2[0-3])";
    private static final String PART = "(o[0-3]>" + STREET + "|s[0-3]|t" + STREET + "|r)";
    private static final Pattern GAME = Pattern.compile(PART + "(;" + PART + ")*");
    private static final int FAR = 1000;

    private static final class Street {
        int from;
        int to;
        boolean narrow;
        boolean open = true;

        Street copy() {
            Street s = new Street();
            s.from = from;
            s.to = to;
            s.narrow = narrow;
            s.open = open;
            return s;
        }
    }

    private static final class Parcel {
        int where;
        int target;
        int weight;
        int value;
        char stage = 'w';
        int courier;

        Parcel copy() {
            Parcel p = new Parcel();
            p.where = where;
            p.target = target;
            p.weight = weight;
            p.value = value;
            p.stage = stage;
            p.courier = courier;
            return p;
        }

        String position() {
            return stage == 'w' ? "w" + where : stage + "" + courier;
        }
    }

    private static final class World {
        List<Street> streets = new ArrayList<>();
        List<Parcel> parcels = new ArrayList<>();
        int[] at = {0, 1, 2, 3};
        boolean[] van = new boolean[4];
        TreeMap<Integer, Integer> orders = new TreeMap<>();
        int[] moves = new int[4];
        int[] outcome = {1, 1, 1, 1};
        int capacity = 5;
        int limit = 40;
        int turns;
        int failed;
        List<String> notes = new ArrayList<>();
        Integer stop;

        World copy() {
            World w = new World();
            for (Street s : streets) {
                w.streets.add(s.copy());
            }
            for (Parcel p : parcels) {
                w.parcels.add(p.copy());
            }
            w.at = at.clone();
            w.van = van.clone();
            w.orders = new TreeMap<>(orders);
            w.moves = moves.clone();
            w.outcome = outcome.clone();
            w.capacity = capacity;
            w.limit = limit;
            w.turns = turns;
            w.failed = failed;
            w.notes = new ArrayList<>(notes);
            w.stop = stop;
            return w;
        }

        String position() {
            StringBuilder text = new StringBuilder(Arrays.toString(at));
            for (Parcel p : parcels) {
                text.append(' ').append(p.position());
            }
            return text.toString();
        }

        int load(int courier) {
            return parcels.stream().filter(p -> p.stage == 'c' && p.courier == courier).mapToInt(p -> p.weight).sum();
        }

        int most(int courier) {
            return van[courier] ? capacity + capacity : capacity;
        }
    }

    private World w = new World();
    private World kept;
    private final ArrayDeque<World> undo = new ArrayDeque<>();
    private String buffer = "";

    PlainClash() {
        w.notes.add(w.position());
    }

    private static void index(boolean right) {
        if (!right) {
            throw new IndexOutOfBoundsException();
        }
    }

    private static void argument(boolean right) {
        if (!right) {
            throw new IllegalArgumentException();
        }
    }

    private static void state(boolean right) {
        if (!right) {
            throw new IllegalStateException();
        }
    }

    private static boolean in(int v, int low, int high) {
        return low <= v && v <= high;
    }

    private void courier(int c) {
        index(in(c, 0, 3));
    }

    private void junction(int j) {
        index(in(j, 0, 9));
    }

    private Street street(int s) {
        index(in(s, 0, w.streets.size() - 1));
        return w.streets.get(s);
    }

    private Parcel parcel(int p) {
        index(in(p, 0, w.parcels.size() - 1));
        return w.parcels.get(p);
    }

    private void save() {
        undo.addLast(w.copy());
        if (undo.size() == 6) {
            undo.removeFirst();
        }
    }

    int addStreet(int from, int to, boolean isNarrow) {
        junction(from);
        junction(to);
        argument(from != to);
        state(w.streets.size() != 24 && w.streets.stream().noneMatch(s -> s.from == from && s.to == to));
        save();
        Street s = new Street();
        s.from = from;
        s.to = to;
        s.narrow = isNarrow;
        w.streets.add(s);
        return w.streets.size() - 1;
    }

    boolean toggleStreet(int street) {
        street(street);
        save();
        return toggle(street);
    }

    private boolean toggle(int street) {
        Street s = street(street);
        s.open = !s.open;
        if (!s.open) {
            w.orders.values().removeIf(o -> o == street);
        }
        return s.open;
    }

    int place(int courier, int junction) {
        courier(courier);
        junction(junction);
        for (int c = 0; c < 4; c++) {
            state(c == courier || w.at[c] != junction);
        }
        save();
        int before = w.at[courier];
        w.at[courier] = junction;
        w.orders.remove(courier);
        w.notes = new ArrayList<>(List.of(w.position()));
        return before;
    }

    boolean toggleVan(int courier) {
        courier(courier);
        state(!w.van[courier] || w.load(courier) <= w.capacity);
        save();
        w.van[courier] = !w.van[courier];
        if (w.van[courier] && w.orders.containsKey(courier) && w.streets.get(w.orders.get(courier)).narrow) {
            w.orders.remove(courier);
        }
        return w.van[courier];
    }

    int setCapacity(int capacity) {
        argument(in(capacity, 1, 9));
        for (int c = 0; c < 4; c++) {
            state(w.load(c) <= (w.van[c] ? 2 : 1) * capacity);
        }
        save();
        int before = w.capacity;
        w.capacity = capacity;
        return before;
    }

    int addParcel(int junction, int target, int weight, int value) {
        junction(junction);
        junction(target);
        argument(junction != target && in(weight, 1, 5) && in(value, 1, 9));
        state(w.parcels.size() != 8);
        save();
        Parcel p = new Parcel();
        p.where = junction;
        p.target = target;
        p.weight = weight;
        p.value = value;
        w.parcels.add(p);
        w.notes = new ArrayList<>(List.of(w.position()));
        return w.parcels.size() - 1;
    }

    int setLimit(int turns) {
        argument(in(turns, 1, 60));
        save();
        int before = w.limit;
        w.limit = turns;
        return before;
    }

    int order(int courier, int street) {
        courier(courier);
        street(street);
        state(whyNoOrder(courier, street) == 0);
        save();
        w.orders.put(courier, street);
        return w.streets.get(street).to;
    }

    boolean takeBack(int courier) {
        courier(courier);
        save();
        return w.orders.remove(courier) != null;
    }

    int turn() {
        state(whyOver() == 0);
        save();
        return makeTurn();
    }

    private int[] reasons() {
        int[] why = {1, 1, 1, 1};
        HashSet<Integer> going = new HashSet<>(w.orders.keySet());
        for (int c : going) {
            why[c] = 0;
        }
        boolean some = true;
        while (some) {
            TreeMap<Integer, Integer> fresh = new TreeMap<>();
            for (int c : going) {
                int reason = reason(c, going);
                if (reason > 0) {
                    fresh.put(c, reason);
                }
            }
            fresh.forEach((c, reason) -> why[c] = reason);
            going.removeAll(fresh.keySet());
            some = !fresh.isEmpty();
        }
        return why;
    }

    private int reason(int c, HashSet<Integer> going) {
        Street mine = w.streets.get(w.orders.get(c));
        List<Integer> rivals = new ArrayList<>();
        for (int o : going) {
            Street other = w.streets.get(w.orders.get(o));
            if (o != c && other.from == mine.to && other.to == mine.from) {
                return 2;
            }
            if (o != c && other.to == mine.to) {
                rivals.add(w.load(o));
            }
        }
        if (rivals.stream().anyMatch(load -> load > w.load(c))) {
            return 3;
        }
        if (rivals.contains(w.load(c))) {
            return 4;
        }
        for (int o = 0; o < 4; o++) {
            if (!going.contains(o) && w.at[o] == mine.to) {
                return 5;
            }
        }
        return 0;
    }

    private int makeTurn() {
        int[] why = reasons();
        int movers = 0;
        for (int c = 0; c < 4; c++) {
            if (why[c] == 0) {
                w.at[c] = w.streets.get(w.orders.get(c)).to;
                w.moves[c]++;
                movers++;
            } else if (why[c] >= 2) {
                w.failed++;
            }
        }
        w.outcome = why;
        Comparator<Parcel> byLook = Comparator.<Parcel>comparingInt(p -> -p.value).thenComparingInt(p -> p.weight);
        for (int c = 0; c < 4; c++) {
            for (Parcel p : w.parcels) {
                if (p.stage == 'c' && p.courier == c && p.target == w.at[c]) {
                    p.stage = 'd';
                }
            }
            List<Parcel> looks = new ArrayList<>(w.parcels);
            int here = w.at[c];
            looks.removeIf(p -> p.stage != 'w' || p.where != here);
            Collections.sort(looks, byLook);
            for (Parcel p : looks) {
                if (w.load(c) + p.weight <= w.most(c)) {
                    p.stage = 'c';
                    p.courier = c;
                }
            }
        }
        w.orders.clear();
        w.turns++;
        w.notes.add(w.position());
        return movers;
    }

    int append(int code) {
        argument(in(code, 33, 126));
        state(buffer.length() != 60);
        buffer += (char) code;
        return buffer.length();
    }

    int clearBuffer() {
        int before = buffer.length();
        buffer = "";
        return before;
    }

    int firstError() {
        for (int i = 0; i < buffer.length(); i++) {
            String begun = buffer.substring(0, i + 1);
            boolean goesOn = false;
            for (String rest : new String[] {"", "r", "0", ">0", "0>0"}) {
                goesOn |= GAME.matcher(begun + rest).matches();
            }
            if (!goesOn) {
                return i;
            }
        }
        return buffer.length();
    }

    int play() {
        argument(GAME.matcher(buffer).matches());
        save();
        String[] parts = buffer.split(";");
        buffer = "";
        w.stop = null;
        for (int i = 0; i < parts.length; i++) {
            try {
                doPart(parts[i]);
            } catch (IllegalStateException | IndexOutOfBoundsException e) {
                w.stop = i;
                return i;
            }
        }
        return parts.length;
    }

    private void doPart(String part) {
        if (part.startsWith("o")) {
            int courier = Integer.parseInt(part.substring(1, 2));
            int street = Integer.parseInt(part.substring(3));
            state(whyNoOrder(courier, street) == 0);
            w.orders.put(courier, street);
        } else if (part.startsWith("s")) {
            w.orders.remove(Integer.parseInt(part.substring(1)));
        } else if (part.startsWith("t")) {
            toggle(Integer.parseInt(part.substring(1)));
        } else {
            state(whyOver() == 0);
            makeTurn();
        }
    }

    boolean hasStopped() {
        return w.stop != null;
    }

    int stoppedPart() {
        state(w.stop != null);
        return w.stop;
    }

    int undo() {
        state(!undo.isEmpty());
        w = undo.removeLast();
        return undo.size();
    }

    int keep() {
        kept = w.copy();
        return w.turns;
    }

    int restore() {
        state(kept != null);
        save();
        w = kept.copy();
        return w.turns;
    }

    int savedStates() {
        return undo.size();
    }

    int streets() {
        return w.streets.size();
    }

    int fromOf(int street) {
        return street(street).from;
    }

    int toOf(int street) {
        return street(street).to;
    }

    boolean isOpen(int street) {
        return street(street).open;
    }

    int junctionOf(int courier) {
        courier(courier);
        return w.at[courier];
    }

    boolean hasVan(int courier) {
        courier(courier);
        return w.van[courier];
    }

    int loadOf(int courier) {
        courier(courier);
        return w.load(courier);
    }

    boolean hasOrder(int courier) {
        courier(courier);
        return w.orders.containsKey(courier);
    }

    int orderOf(int courier) {
        courier(courier);
        state(w.orders.containsKey(courier));
        return w.orders.get(courier);
    }

    int movesOf(int courier) {
        courier(courier);
        return w.moves[courier];
    }

    int outcomeOf(int courier) {
        courier(courier);
        return w.outcome[courier];
    }

    int parcels() {
        return w.parcels.size();
    }

    boolean isWaiting(int parcel) {
        return parcel(parcel).stage == 'w';
    }

    boolean isDelivered(int parcel) {
        return parcel(parcel).stage == 'd';
    }

    int courierOf(int parcel) {
        state(parcel(parcel).stage != 'w');
        return parcel(parcel).courier;
    }

    int placeOf(int parcel) {
        Parcel p = parcel(parcel);
        return p.stage == 'w' ? p.where : p.stage == 'c' ? w.at[p.courier] : p.target;
    }

    int pointsOf(int player) {
        index(in(player, 0, 1));
        return w.parcels.stream().filter(p -> p.stage == 'd' && p.courier / 2 == player).mapToInt(p -> p.value).sum();
    }

    int pointsByParcels(int player) {
        return pointsOf(player);
    }

    int turnsPassed() {
        return w.turns;
    }

    int failedMoves() {
        return w.failed;
    }

    int timesNoted() {
        return Collections.frequency(w.notes, w.position());
    }

    int positionsNoted() {
        return new HashSet<>(w.notes).size();
    }

    int whyOver() {
        if (!w.parcels.isEmpty() && w.parcels.stream().allMatch(p -> p.stage == 'd')) {
            return 1;
        }
        return timesNoted() >= 3 ? 2 : w.turns >= w.limit ? 3 : 0;
    }

    private int[][] table(boolean van) {
        int[][] far = new int[10][10];
        for (int i = 0; i < 10; i++) {
            Arrays.fill(far[i], FAR);
            far[i][i] = 0;
        }
        for (Street s : w.streets) {
            if (s.open && !(s.narrow && van)) {
                far[s.from][s.to] = 1;
            }
        }
        for (int k = 0; k < 10; k++) {
            for (int i = 0; i < 10; i++) {
                for (int j = 0; j < 10; j++) {
                    far[i][j] = Math.min(far[i][j], far[i][k] + far[k][j]);
                }
            }
        }
        return far;
    }

    int reach(int courier) {
        courier(courier);
        int mask = 0;
        int[] far = table(w.van[courier])[w.at[courier]];
        for (int j = 0; j < 10; j++) {
            mask += far[j] < FAR ? 1 << j : 0;
        }
        return mask;
    }

    int reachByJoining(int courier) {
        return reach(courier);
    }

    int distance(int courier, int junction) {
        courier(courier);
        junction(junction);
        int far = table(w.van[courier])[w.at[courier]][junction];
        return far < FAR ? far : -1;
    }

    int nextStreet(int courier, int junction) {
        int far = distance(courier, junction);
        state(far > 0);
        int[][] table = table(w.van[courier]);
        for (Street s : w.streets) {
            boolean usable = s.open && !(s.narrow && w.van[courier]);
            if (usable && s.from == w.at[courier] && 1 + table[s.to][junction] == far) {
                return w.streets.indexOf(s);
            }
        }
        throw new AssertionError("a way without a beginning");
    }

    int bestParcel(int courier) {
        courier(courier);
        int[][] table = table(w.van[courier]);
        List<Parcel> suiting = new ArrayList<>(w.parcels);
        suiting.removeIf(p -> p.stage != 'w' || p.weight > w.most(courier)
                || table[w.at[courier]][p.where] >= FAR || table[p.where][p.target] >= FAR);
        state(!suiting.isEmpty());
        Comparator<Parcel> byWay = Comparator.comparingInt(p -> table[w.at[courier]][p.where] + table[p.where][p.target]);
        return w.parcels.indexOf(Collections.min(suiting, byWay.thenComparingInt(p -> -p.value)));
    }

    int whyNoOrder(int courier, int street) {
        courier(courier);
        Street s = street(street);
        if (whyOver() != 0) {
            return 1;
        }
        if (s.from != w.at[courier]) {
            return 2;
        }
        return !s.open ? 3 : s.narrow && w.van[courier] ? 4 : 0;
    }

    int wouldGo(int courier) {
        courier(courier);
        return reasons()[courier];
    }

    float meanLoad() {
        return (w.load(0) + w.load(1) + w.load(2) + w.load(3)) / 4f;
    }

    double deliveredShare() {
        long delivered = w.parcels.stream().filter(p -> p.stage == 'd').count();
        return w.parcels.isEmpty() ? 0.0 : delivered / (double) w.parcels.size();
    }

    long digest() {
        List<Long> values = new ArrayList<>();
        for (int v : new int[] {streets(), parcels(), turnsPassed(), failedMoves(), timesNoted(), positionsNoted(),
            whyOver(), pointsOf(0), pointsByParcels(0), pointsOf(1), pointsByParcels(1), savedStates()}) {
            values.add((long) v);
        }
        for (Street s : w.streets) {
            values.addAll(List.of((long) s.from, (long) s.to, s.open ? 1L : 0L));
        }
        for (int c = 0; c < 4; c++) {
            values.addAll(List.of((long) w.at[c], w.van[c] ? 1L : 0L, (long) w.load(c), hasOrder(c) ? 1L : 0L));
            if (hasOrder(c)) {
                values.add((long) orderOf(c));
            }
            values.addAll(List.of((long) w.moves[c], (long) w.outcome[c], (long) reach(c), (long) reach(c), (long) wouldGo(c)));
            for (int far : table(w.van[c])[w.at[c]]) {
                values.add(far < FAR ? far : -1L);
            }
        }
        for (int p = 0; p < parcels(); p++) {
            values.addAll(List.of(isWaiting(p) ? 1L : 0L, isDelivered(p) ? 1L : 0L, (long) placeOf(p)));
            if (!isWaiting(p)) {
                values.add((long) courierOf(p));
            }
        }
        values.add(hasStopped() ? 1L : 0L);
        if (hasStopped()) {
            values.add((long) stoppedPart());
        }
        values.add((long) Float.floatToIntBits(meanLoad()));
        values.add(Double.doubleToLongBits(deliveredShare()));
        values.add((long) buffer.length());
        buffer.chars().forEach(code -> values.add((long) code));
        long hash = 4357;
        for (long v : values) {
            hash = 31 * hash + v;
        }
        return hash;
    }
}
