/** Two player game of crossing couriers on directed streets; README.md says how to use it. */
public final class CourierClash {
    private static final int JUNCTIONS = 10;
    private static final int COURIERS = 4;
    private static final int PLAYERS = 2;
    private static final int MOST_STREETS = 24;
    private static final int MOST_PARCELS = 8;
    private static final int MOST_WEIGHT = 5;
    private static final int MOST_VALUE = 9;
    private static final int MOST_CAPACITY = 9;
    private static final int FIRST_CAPACITY = 5;
    private static final int MOST_TURNS = 60;
    private static final int FIRST_LIMIT = 40;
    private static final int MOST_SAVED = 5;
    private static final int MOST_CODES = 60;
    private static final int FIRST_CODE = 33;
    private static final int LAST_CODE = 126;
    private static final int TIMES_THAT_END = 3;
    private static final int NONE = -1;

    private static final int MOVES = 0;
    private static final int NO_ORDER = 1;
    private static final int EXCHANGE = 2;
    private static final int HEAVIER_RIVAL = 3;
    private static final int RIVAL_AS_HEAVY = 4;
    private static final int ONE_WHO_STAYS = 5;

    private static final int ALL_DELIVERED = 1;
    private static final int POSITION_AGAIN = 2;
    private static final int LIMIT_PASSED = 3;

    private static final int GAME_OVER = 1;
    private static final int BEGINS_ELSEWHERE = 2;
    private static final int CLOSED = 3;
    private static final int TOO_NARROW = 4;

    /** A parcel's spot: 0 to 9 is the junction where it waits; from here on, the courier that carries it. */
    private static final int CARRIED = JUNCTIONS;
    /** From this spot on, the courier that delivered it. */
    private static final int DELIVERED = CARRIED + COURIERS;

    private final State now = new State();
    private final State[] saved = new State[MOST_SAVED];
    private final State snapshot = new State();
    private final Foretelling foretelling = new Foretelling();
    private final GameText text = new GameText();
    private final int[] joined = new int[JUNCTIONS];
    private int savedCount = 0;
    private boolean hasSnapshot = false;

    public CourierClash() {
        for (int i = 0; i < MOST_SAVED; i++) {
            saved[i] = new State();
        }
    }

    // ---- streets, couriers, parcels

    public int addStreet(int from, int to, boolean isNarrow)
            throws IndexOutOfBoundsException, IllegalArgumentException, IllegalStateException {
        needJunction(from);
        needJunction(to);
        if (from == to) {
            throw new IllegalArgumentException("a street leads to another junction");
        }
        if (now.streets.count >= MOST_STREETS || now.streets.find(from, to) != NONE) {
            throw new IllegalStateException("no room for this street");
        }
        save();
        return now.streets.add(from, to, isNarrow);
    }

    public boolean toggleStreet(int street) throws IndexOutOfBoundsException {
        needStreet(street);
        save();
        return now.switchStreet(street);
    }

    public int place(int courier, int junction) throws IndexOutOfBoundsException, IllegalStateException {
        needCourier(courier);
        needJunction(junction);
        int there = now.couriers.whoIsAt(junction);
        if (there != NONE && there != courier) {
            throw new IllegalStateException("another courier is there");
        }
        save();
        return now.moveBySetting(courier, junction);
    }

    public boolean toggleVan(int courier) throws IndexOutOfBoundsException, IllegalStateException {
        needCourier(courier);
        boolean van = !now.couriers.drivesVan(courier);
        if (now.parcels.weightCarriedBy(courier) > capacityWith(now.capacity, van)) {
            throw new IllegalStateException("its load would be too much");
        }
        save();
        return now.switchVan(courier);
    }

    public int setCapacity(int capacity) throws IllegalArgumentException, IllegalStateException {
        if (capacity < 1 || capacity > MOST_CAPACITY) {
            throw new IllegalArgumentException("capacity is out of range");
        }
        for (int c = 0; c < COURIERS; c++) {
            if (now.parcels.weightCarriedBy(c) > capacityWith(capacity, now.couriers.drivesVan(c))) {
                throw new IllegalStateException("some load would be too much");
            }
        }
        save();
        int previous = now.capacity;
        now.capacity = capacity;
        return previous;
    }

    public int addParcel(int junction, int target, int weight, int value)
            throws IndexOutOfBoundsException, IllegalArgumentException, IllegalStateException {
        needJunction(junction);
        needJunction(target);
        if (junction == target || weight < 1 || weight > MOST_WEIGHT || value < 1 || value > MOST_VALUE) {
            throw new IllegalArgumentException("no parcel is like this");
        }
        if (now.parcels.count >= MOST_PARCELS) {
            throw new IllegalStateException("no room for this parcel");
        }
        save();
        int number = now.parcels.add(junction, target, weight, value);
        now.noteAfresh();
        return number;
    }

    public int setLimit(int turns) throws IllegalArgumentException {
        if (turns < 1 || turns > MOST_TURNS) {
            throw new IllegalArgumentException("turns is out of range");
        }
        save();
        int previous = now.limit;
        now.limit = turns;
        return previous;
    }

    // ---- orders, turns

    public int order(int courier, int street) throws IndexOutOfBoundsException, IllegalStateException {
        needCourier(courier);
        needStreet(street);
        if (now.whyNot(courier, street) != 0) {
            throw new IllegalStateException("the courier cannot take this street now");
        }
        save();
        return now.giveOrder(courier, street);
    }

    public boolean takeBack(int courier) throws IndexOutOfBoundsException {
        needCourier(courier);
        save();
        return now.couriers.dropOrder(courier);
    }

    public int turn() throws IllegalStateException {
        if (now.reasonOver() != 0) {
            throw new IllegalStateException("the game is over");
        }
        save();
        return now.makeTurn(foretelling);
    }

    // ---- texts

    public int append(int code) throws IllegalArgumentException, IllegalStateException {
        if (code < FIRST_CODE || code > LAST_CODE) {
            throw new IllegalArgumentException("code is out of range");
        }
        if (text.length >= MOST_CODES) {
            throw new IllegalStateException("the buffer is full");
        }
        return text.add(code);
    }

    public int clearBuffer() {
        return text.clear();
    }

    public int firstError() {
        return text.errorIndex();
    }

    public int play() throws IllegalArgumentException {
        if (!text.isComplete()) {
            throw new IllegalArgumentException("the buffer is not a complete game");
        }
        save();
        int done = playParts();
        text.clear();
        return done;
    }

    public boolean hasStopped() {
        return now.stopPart != NONE;
    }

    public int stoppedPart() throws IllegalStateException {
        if (now.stopPart == NONE) {
            throw new IllegalStateException("the latest text did not stop");
        }
        return now.stopPart;
    }

    // ---- undo, the snapshot

    public int undo() throws IllegalStateException {
        if (savedCount <= 0) {
            throw new IllegalStateException("no state is saved");
        }
        savedCount--;
        now.copy(saved[savedCount]);
        return savedCount;
    }

    public int keep() {
        snapshot.copy(now);
        hasSnapshot = true;
        return now.turns;
    }

    public int restore() throws IllegalStateException {
        if (!hasSnapshot) {
            throw new IllegalStateException("there is no snapshot");
        }
        save();
        now.copy(snapshot);
        return now.turns;
    }

    public int savedStates() {
        return savedCount;
    }

    // ---- looks at streets and couriers; nothing is changed

    public int streets() {
        return now.streets.count;
    }

    public int fromOf(int street) throws IndexOutOfBoundsException {
        needStreet(street);
        return now.streets.from[street];
    }

    public int toOf(int street) throws IndexOutOfBoundsException {
        needStreet(street);
        return now.streets.to[street];
    }

    public boolean isOpen(int street) throws IndexOutOfBoundsException {
        needStreet(street);
        return now.streets.opened(street);
    }

    public int junctionOf(int courier) throws IndexOutOfBoundsException {
        needCourier(courier);
        return now.couriers.at[courier];
    }

    public boolean hasVan(int courier) throws IndexOutOfBoundsException {
        needCourier(courier);
        return now.couriers.drivesVan(courier);
    }

    public int loadOf(int courier) throws IndexOutOfBoundsException {
        needCourier(courier);
        return now.parcels.weightCarriedBy(courier);
    }

    public boolean hasOrder(int courier) throws IndexOutOfBoundsException {
        needCourier(courier);
        return now.couriers.ordered[courier] != NONE;
    }

    public int orderOf(int courier) throws IndexOutOfBoundsException, IllegalStateException {
        needCourier(courier);
        if (now.couriers.ordered[courier] == NONE) {
            throw new IllegalStateException("the courier has no order");
        }
        return now.couriers.ordered[courier];
    }

    public int movesOf(int courier) throws IndexOutOfBoundsException {
        needCourier(courier);
        return now.couriers.moved[courier];
    }

    public int outcomeOf(int courier) throws IndexOutOfBoundsException {
        needCourier(courier);
        return now.couriers.outcome[courier];
    }

    // ---- looks at parcels, points, the end

    public int parcels() {
        return now.parcels.count;
    }

    public boolean isWaiting(int parcel) throws IndexOutOfBoundsException {
        needParcel(parcel);
        return now.parcels.waits(parcel);
    }

    public boolean isDelivered(int parcel) throws IndexOutOfBoundsException {
        needParcel(parcel);
        return now.parcels.arrived(parcel);
    }

    public int courierOf(int parcel) throws IndexOutOfBoundsException, IllegalStateException {
        needParcel(parcel);
        if (now.parcels.waits(parcel)) {
            throw new IllegalStateException("the parcel waits");
        }
        return now.parcels.courierWith(parcel);
    }

    public int placeOf(int parcel) throws IndexOutOfBoundsException {
        needParcel(parcel);
        return now.whereParcelIs(parcel);
    }

    public int pointsOf(int player) throws IndexOutOfBoundsException {
        needPlayer(player);
        return now.points[player];
    }

    public int pointsByParcels(int player) throws IndexOutOfBoundsException {
        needPlayer(player);
        return now.parcels.valueDeliveredFor(player);
    }

    public int turnsPassed() {
        return now.turns;
    }

    public int failedMoves() {
        return now.failed;
    }

    public int timesNoted() {
        return now.notes.times(now.position());
    }

    public int positionsNoted() {
        return now.notes.unlike();
    }

    public int whyOver() {
        return now.reasonOver();
    }

    // ---- reaching

    public int reach(int courier) throws IndexOutOfBoundsException {
        needCourier(courier);
        return now.streets.reachedFrom(now.couriers.at[courier], now.couriers.drivesVan(courier));
    }

    public int reachByJoining(int courier) throws IndexOutOfBoundsException {
        needCourier(courier);
        return now.streets.joinedFrom(now.couriers.at[courier], now.couriers.drivesVan(courier), joined);
    }

    public int distance(int courier, int junction) throws IndexOutOfBoundsException {
        needCourier(courier);
        needJunction(junction);
        return now.wayTo(courier, junction);
    }

    public int nextStreet(int courier, int junction) throws IndexOutOfBoundsException, IllegalStateException {
        needCourier(courier);
        needJunction(junction);
        int way = now.wayTo(courier, junction);
        if (way <= 0) {
            throw new IllegalStateException("no way leads there");
        }
        return now.firstStreetOfWay(courier, junction, way);
    }

    public int bestParcel(int courier) throws IndexOutOfBoundsException, IllegalStateException {
        needCourier(courier);
        int best = now.bestFor(courier);
        if (best == NONE) {
            throw new IllegalStateException("no parcel suits the courier");
        }
        return best;
    }

    public int whyNoOrder(int courier, int street) throws IndexOutOfBoundsException {
        needCourier(courier);
        needStreet(street);
        return now.whyNot(courier, street);
    }

    public int wouldGo(int courier) throws IndexOutOfBoundsException {
        needCourier(courier);
        foretelling.settle(now);
        return foretelling.reason[courier];
    }

    public float meanLoad() {
        int together = 0;
        for (int c = 0; c < COURIERS; c++) {
            together += now.parcels.weightCarriedBy(c);
        }
        return (float) together / 4.0f;
    }

    public double deliveredShare() {
        int all = now.parcels.count;
        if (all <= 0) {
            return 0.0;
        }
        return (double) now.parcels.countDelivered() / (double) all;
    }

    public long digest() {
        long hash = hashOfCounts(4357L);
        for (int s = 0; s < now.streets.count; s++) {
            hash = mix(hash, fromOf(s));
            hash = mix(hash, toOf(s));
            hash = mixFlag(hash, isOpen(s));
        }
        for (int c = 0; c < COURIERS; c++) {
            hash = mixCourier(hash, c);
        }
        for (int p = 0; p < now.parcels.count; p++) {
            hash = mixParcel(hash, p);
        }
        hash = mixFlag(hash, hasStopped());
        if (hasStopped()) {
            hash = mix(hash, stoppedPart());
        }
        hash = mix(hash, bitsOfFloat(meanLoad()));
        hash = mix(hash, bitsOfDouble(deliveredShare()));
        hash = mix(hash, text.length);
        for (int i = 0; i < text.length; i++) {
            hash = mix(hash, text.codes[i]);
        }
        return hash;
    }

    // ---- what the calls above share

    private static void needJunction(int junction) {
        if (junction < 0 || junction >= JUNCTIONS) {
            throw new IndexOutOfBoundsException("there is no such junction");
        }
    }

    private static void needCourier(int courier) {
        if (!isCourier(courier)) {
            throw new IndexOutOfBoundsException("there is no such courier");
        }
    }

    private static void needPlayer(int player) {
        if (player < 0 || player >= PLAYERS) {
            throw new IndexOutOfBoundsException("there is no such player");
        }
    }

    private void needStreet(int street) {
        if (!now.streets.has(street)) {
            throw new IndexOutOfBoundsException("there is no such street");
        }
    }

    private void needParcel(int parcel) {
        if (!now.parcels.has(parcel)) {
            throw new IndexOutOfBoundsException("there is no such parcel");
        }
    }

    private static boolean isCourier(int courier) {
        return courier >= 0 && courier < COURIERS;
    }

    private static int capacityWith(int capacity, boolean van) {
        return van ? 2 * capacity : capacity;
    }

    private static int playerOf(int courier) {
        return courier < 2 ? 0 : 1;
    }

    /** Saves the state of now; the oldest one's object is used again, so that no call makes objects. */
    private void save() {
        if (savedCount >= MOST_SAVED) {
            State oldest = saved[0];
            for (int i = 1; i < MOST_SAVED; i++) {
                saved[i - 1] = saved[i];
            }
            saved[MOST_SAVED - 1] = oldest;
            savedCount = MOST_SAVED - 1;
        }
        saved[savedCount].copy(now);
        savedCount++;
    }

    /** Does the parts of a complete text, up to the first that cannot be done, and says how many. */
    private int playParts() {
        int start = 0;
        int part = 0;
        now.stopPart = NONE;
        while (part < MOST_CODES && start < text.length) {
            start = text.readPart(start);
            if (!doPart()) {
                now.stopPart = part;
                return part;
            }
            part++;
        }
        return part;
    }

    /** Does the part that was read last; false, with nothing changed, if its method would throw. */
    private boolean doPart() {
        switch (text.kind) {
            case 'o':
                if (!now.streets.has(text.street) || now.whyNot(text.courier, text.street) != 0) {
                    return false;
                }
                now.giveOrder(text.courier, text.street);
                return true;
            case 's':
                now.couriers.dropOrder(text.courier);
                return true;
            case 't':
                if (!now.streets.has(text.street)) {
                    return false;
                }
                now.switchStreet(text.street);
                return true;
            default:
                if (now.reasonOver() != 0) {
                    return false;
                }
                now.makeTurn(foretelling);
                return true;
        }
    }

    private long hashOfCounts(long start) {
        long hash = mix(start, streets());
        hash = mix(hash, parcels());
        hash = mix(hash, turnsPassed());
        hash = mix(hash, failedMoves());
        hash = mix(hash, timesNoted());
        hash = mix(hash, positionsNoted());
        hash = mix(hash, whyOver());
        for (int player = 0; player < PLAYERS; player++) {
            hash = mix(hash, pointsOf(player));
            hash = mix(hash, pointsByParcels(player));
        }
        return mix(hash, savedStates());
    }

    private long mixCourier(long start, int courier) {
        long hash = mix(start, junctionOf(courier));
        hash = mixFlag(hash, hasVan(courier));
        hash = mix(hash, loadOf(courier));
        hash = mixFlag(hash, hasOrder(courier));
        if (hasOrder(courier)) {
            hash = mix(hash, orderOf(courier));
        }
        hash = mix(hash, movesOf(courier));
        hash = mix(hash, outcomeOf(courier));
        hash = mix(hash, reach(courier));
        hash = mix(hash, reachByJoining(courier));
        hash = mix(hash, wouldGo(courier));
        for (int junction = 0; junction < JUNCTIONS; junction++) {
            hash = mix(hash, distance(courier, junction));
        }
        return hash;
    }

    private long mixParcel(long start, int parcel) {
        long hash = mixFlag(start, isWaiting(parcel));
        hash = mixFlag(hash, isDelivered(parcel));
        hash = mix(hash, placeOf(parcel));
        if (!isWaiting(parcel)) {
            hash = mix(hash, courierOf(parcel));
        }
        return hash;
    }

    private static long mix(long hash, long value) {
        return 31L * hash + value;
    }

    private static long mixFlag(long hash, boolean value) {
        return mix(hash, value ? 1L : 0L);
    }

    /** The bits of a float that is 0 or a normal number above it; Float is not in the library that is allowed. */
    private static int bitsOfFloat(float number) {
        if (!(number > 0.0f)) {
            return 0;
        }
        float rest = number;
        int exponent = 127;
        while (rest >= 2.0f && exponent < 254) {
            rest = rest / 2.0f;
            exponent++;
        }
        while (rest < 1.0f && exponent > 1) {
            rest = rest * 2.0f;
            exponent--;
        }
        return exponent << 23 | (int) ((rest - 1.0f) * 8388608.0f);
    }

    /** The bits of a double that is 0 or a normal number above it; Double is not in the library that is allowed. */
    private static long bitsOfDouble(double number) {
        if (!(number > 0.0)) {
            return 0L;
        }
        double rest = number;
        int exponent = 1023;
        while (rest >= 2.0 && exponent < 2046) {
            rest = rest / 2.0;
            exponent++;
        }
        while (rest < 1.0 && exponent > 1) {
            rest = rest * 2.0;
            exponent--;
        }
        return (long) exponent << 52 | (long) ((rest - 1.0) * 4503599627370496.0);
    }

    /** The streets, and where one comes to by them. A mask has the bit j for the junction j. */
    private static final class Streets {
        final int[] from = new int[MOST_STREETS];
        final int[] to = new int[MOST_STREETS];
        /** The bit s for the street s, in both. */
        int narrowBits = 0;
        int openBits = 0;
        int count = 0;

        void copy(Streets other) {
            System.arraycopy(other.from, 0, from, 0, MOST_STREETS);
            System.arraycopy(other.to, 0, to, 0, MOST_STREETS);
            narrowBits = other.narrowBits;
            openBits = other.openBits;
            count = other.count;
        }

        boolean has(int street) {
            return street >= 0 && street < count && street < MOST_STREETS;
        }

        int find(int begin, int end) {
            for (int s = 0; s < count; s++) {
                if (from[s] == begin && to[s] == end) {
                    return s;
                }
            }
            return NONE;
        }

        int add(int begin, int end, boolean isNarrow) {
            int street = count;
            if (street >= MOST_STREETS) {
                return NONE;
            }
            from[street] = begin;
            to[street] = end;
            if (isNarrow) {
                narrowBits |= 1 << street;
            }
            openBits |= 1 << street;
            count++;
            return street;
        }

        boolean opened(int street) {
            return (openBits >> street & 1) == 1;
        }

        /** The bits of the streets that are open and wide enough. */
        int usableBits(boolean van) {
            return van ? openBits & ~narrowBits : openBits;
        }

        boolean takes(int street, boolean van) {
            return (usableBits(van) >> street & 1) == 1;
        }

        /** The ends of the streets that begin at the junctions of a mask. */
        int endsFrom(int junctions, boolean van) {
            int ends = 0;
            int usable = usableBits(van);
            for (int s = 0; s < count; s++) {
                if ((usable >> s & 1) == 1 && (junctions >> from[s] & 1) == 1) {
                    ends |= 1 << to[s];
                }
            }
            return ends;
        }

        int reachedFrom(int start, boolean van) {
            int reached = 1 << start;
            for (int step = 0; step < JUNCTIONS; step++) {
                int more = reached | endsFrom(reached, van);
                if (more == reached) {
                    return reached;
                }
                reached = more;
            }
            return reached;
        }

        int joinedFrom(int start, boolean van, int[] rows) {
            for (int j = 0; j < rows.length; j++) {
                rows[j] = 1 << j | endsFrom(1 << j, van);
            }
            for (int by = 0; by < rows.length; by++) {
                for (int j = 0; j < rows.length; j++) {
                    if ((rows[j] >> by & 1) == 1) {
                        rows[j] |= rows[by];
                    }
                }
            }
            return start >= 0 && start < rows.length ? rows[start] : 0;
        }

        /** The least number of streets from one junction to another; NONE if no way leads there. */
        int wayBetween(int start, int end, boolean van) {
            int reached = 1 << start;
            for (int steps = 0; steps < JUNCTIONS; steps++) {
                if ((reached >> end & 1) == 1) {
                    return steps;
                }
                int more = reached | endsFrom(reached, van);
                if (more == reached) {
                    return NONE;
                }
                reached = more;
            }
            return NONE;
        }
    }

    private static final class Couriers {
        final int[] at = new int[COURIERS];
        /** The street of the order, or NONE. */
        final int[] ordered = new int[COURIERS];
        final int[] moved = new int[COURIERS];
        final int[] outcome = new int[COURIERS];
        /** The bit c for the courier c. */
        int vanBits = 0;

        Couriers() {
            for (int c = 0; c < COURIERS; c++) {
                at[c] = c;
                ordered[c] = NONE;
                outcome[c] = NO_ORDER;
            }
        }

        void copy(Couriers other) {
            System.arraycopy(other.at, 0, at, 0, COURIERS);
            System.arraycopy(other.ordered, 0, ordered, 0, COURIERS);
            System.arraycopy(other.moved, 0, moved, 0, COURIERS);
            System.arraycopy(other.outcome, 0, outcome, 0, COURIERS);
            vanBits = other.vanBits;
        }

        int whoIsAt(int junction) {
            for (int c = 0; c < COURIERS; c++) {
                if (at[c] == junction) {
                    return c;
                }
            }
            return NONE;
        }

        boolean drivesVan(int courier) {
            return (vanBits >> courier & 1) == 1;
        }

        boolean dropOrder(int courier) {
            if (!isCourier(courier) || ordered[courier] == NONE) {
                return false;
            }
            ordered[courier] = NONE;
            return true;
        }

        void dropOrdersOf(int street) {
            for (int c = 0; c < COURIERS; c++) {
                if (ordered[c] == street) {
                    ordered[c] = NONE;
                }
            }
        }
    }

    private static final class Parcels {
        final int[] target = new int[MOST_PARCELS];
        final int[] weight = new int[MOST_PARCELS];
        final int[] value = new int[MOST_PARCELS];
        final int[] spot = new int[MOST_PARCELS];
        int count = 0;

        void copy(Parcels other) {
            System.arraycopy(other.target, 0, target, 0, MOST_PARCELS);
            System.arraycopy(other.weight, 0, weight, 0, MOST_PARCELS);
            System.arraycopy(other.value, 0, value, 0, MOST_PARCELS);
            System.arraycopy(other.spot, 0, spot, 0, MOST_PARCELS);
            count = other.count;
        }

        boolean has(int parcel) {
            return parcel >= 0 && parcel < count && parcel < MOST_PARCELS;
        }

        int add(int junction, int end, int itsWeight, int itsValue) {
            int parcel = count;
            if (parcel >= MOST_PARCELS) {
                return NONE;
            }
            spot[parcel] = junction;
            target[parcel] = end;
            weight[parcel] = itsWeight;
            value[parcel] = itsValue;
            count++;
            return parcel;
        }

        boolean waits(int parcel) {
            return has(parcel) && spot[parcel] < CARRIED;
        }

        boolean arrived(int parcel) {
            return has(parcel) && spot[parcel] >= DELIVERED;
        }

        /** The courier that carries or delivered it; NONE if it waits. */
        int courierWith(int parcel) {
            if (!has(parcel) || spot[parcel] < CARRIED) {
                return NONE;
            }
            return spot[parcel] < DELIVERED ? spot[parcel] - CARRIED : spot[parcel] - DELIVERED;
        }

        int weightCarriedBy(int courier) {
            int load = 0;
            for (int p = 0; p < count; p++) {
                if (spot[p] == CARRIED + courier) {
                    load += weight[p];
                }
            }
            return load;
        }

        int countDelivered() {
            int delivered = 0;
            for (int p = 0; p < count; p++) {
                if (spot[p] >= DELIVERED) {
                    delivered++;
                }
            }
            return delivered;
        }

        int valueDeliveredFor(int player) {
            int together = 0;
            for (int p = 0; p < count; p++) {
                if (spot[p] >= DELIVERED && playerOf(spot[p] - DELIVERED) == player) {
                    together += value[p];
                }
            }
            return together;
        }

        /** Delivers what a courier at a junction carries there, and returns its value. */
        int deliver(int courier, int junction) {
            int gained = 0;
            for (int p = 0; p < count; p++) {
                if (spot[p] == CARRIED + courier && target[p] == junction) {
                    spot[p] = DELIVERED + courier;
                    gained += value[p];
                }
            }
            return gained;
        }

        void pickUp(int courier, int junction, int most) {
            int load = weightCarriedBy(courier);
            int lookedAt = 0;
            for (int looks = 0; looks < count; looks++) {
                int parcel = nextToLookAt(junction, lookedAt);
                if (!has(parcel)) {
                    return;
                }
                lookedAt |= 1 << parcel;
                if (load + weight[parcel] <= most) {
                    spot[parcel] = CARRIED + courier;
                    load += weight[parcel];
                }
            }
        }

        /** Of those that wait at a junction and are not in a mask: by value, then weight, then number. */
        int nextToLookAt(int junction, int lookedAt) {
            int best = NONE;
            int bestValue = 0;
            int bestWeight = 0;
            for (int p = 0; p < count; p++) {
                boolean looked = spot[p] != junction || (lookedAt >> p & 1) == 1;
                if (!looked && (value[p] > bestValue || value[p] == bestValue && weight[p] < bestWeight)) {
                    best = p;
                    bestValue = value[p];
                    bestWeight = weight[p];
                }
            }
            return best;
        }
    }

    /** The positions noted since notes were dropped: one at first, and one a turn. */
    private static final class Notes {
        final long[] noted = new long[MOST_TURNS + 1];
        int count = 0;

        void copy(Notes other) {
            System.arraycopy(other.noted, 0, noted, 0, MOST_TURNS + 1);
            count = other.count;
        }

        void note(long position) {
            if (count < noted.length) {
                noted[count] = position;
                count++;
            }
        }

        int times(long position) {
            int times = 0;
            for (int i = 0; i < count; i++) {
                if (noted[i] == position) {
                    times++;
                }
            }
            return times;
        }

        int unlike() {
            int unlike = 0;
            for (int i = 0; i < count; i++) {
                if (!wasNotedBefore(i)) {
                    unlike++;
                }
            }
            return unlike;
        }

        private boolean wasNotedBefore(int index) {
            for (int i = 0; i < index && index < count; i++) {
                if (noted[i] == noted[index]) {
                    return true;
                }
            }
            return false;
        }
    }

    /** All that undo and the snapshot bring back. */
    private static final class State {
        final Streets streets = new Streets();
        final Couriers couriers = new Couriers();
        final Parcels parcels = new Parcels();
        final Notes notes = new Notes();
        final int[] points = new int[PLAYERS];
        int capacity = FIRST_CAPACITY;
        int limit = FIRST_LIMIT;
        int turns = 0;
        int failed = 0;
        /** The part at which the latest text stopped, or NONE. */
        int stopPart = NONE;

        State() {
            notes.note(position());
        }

        void copy(State other) {
            streets.copy(other.streets);
            couriers.copy(other.couriers);
            parcels.copy(other.parcels);
            notes.copy(other.notes);
            System.arraycopy(other.points, 0, points, 0, PLAYERS);
            capacity = other.capacity;
            limit = other.limit;
            turns = other.turns;
            failed = other.failed;
            stopPart = other.stopPart;
        }

        /** One number for where all couriers and parcels are: 4 bits a courier, 5 bits a parcel. */
        long position() {
            long position = 0L;
            for (int c = 0; c < COURIERS; c++) {
                position = position << 4 | couriers.at[c];
            }
            for (int p = 0; p < parcels.count; p++) {
                position = position << 5 | parcels.spot[p];
            }
            return position;
        }

        void noteAfresh() {
            notes.count = 0;
            notes.note(position());
        }

        int reasonOver() {
            if (parcels.count > 0 && parcels.countDelivered() == parcels.count) {
                return ALL_DELIVERED;
            }
            if (notes.times(position()) >= TIMES_THAT_END) {
                return POSITION_AGAIN;
            }
            return turns >= limit ? LIMIT_PASSED : 0;
        }

        int mostCarriedBy(int courier) {
            return capacityWith(capacity, couriers.drivesVan(courier));
        }

        int whereParcelIs(int parcel) {
            if (!parcels.has(parcel)) {
                return NONE;
            }
            if (parcels.arrived(parcel)) {
                return parcels.target[parcel];
            }
            int carrier = parcels.courierWith(parcel);
            if (isCourier(carrier)) {
                return couriers.at[carrier];
            }
            return parcels.spot[parcel];
        }

        boolean switchStreet(int street) {
            streets.openBits ^= 1 << street;
            if (!streets.opened(street)) {
                couriers.dropOrdersOf(street);
            }
            return streets.opened(street);
        }

        int moveBySetting(int courier, int junction) {
            if (!isCourier(courier)) {
                return NONE;
            }
            int before = couriers.at[courier];
            couriers.at[courier] = junction;
            couriers.dropOrder(courier);
            noteAfresh();
            return before;
        }

        boolean switchVan(int courier) {
            if (!isCourier(courier)) {
                return false;
            }
            couriers.vanBits ^= 1 << courier;
            boolean van = couriers.drivesVan(courier);
            int street = couriers.ordered[courier];
            if (streets.has(street) && !streets.takes(street, van)) {
                couriers.dropOrder(courier);
            }
            return van;
        }

        int giveOrder(int courier, int street) {
            if (!isCourier(courier) || !streets.has(street)) {
                return NONE;
            }
            couriers.ordered[courier] = street;
            return streets.to[street];
        }

        int whyNot(int courier, int street) {
            if (!isCourier(courier) || !streets.has(street)) {
                return BEGINS_ELSEWHERE;
            }
            if (reasonOver() != 0) {
                return GAME_OVER;
            }
            if (streets.from[street] != couriers.at[courier]) {
                return BEGINS_ELSEWHERE;
            }
            if (!streets.opened(street)) {
                return CLOSED;
            }
            return streets.takes(street, couriers.drivesVan(courier)) ? 0 : TOO_NARROW;
        }

        /** Makes a turn, and returns how many couriers move. */
        int makeTurn(Foretelling foretelling) {
            foretelling.settle(this);
            int movers = 0;
            for (int c = 0; c < COURIERS; c++) {
                int reason = foretelling.reason[c];
                couriers.outcome[c] = reason;
                couriers.ordered[c] = NONE;
                if (reason == MOVES) {
                    couriers.at[c] = foretelling.end[c];
                    couriers.moved[c]++;
                    movers++;
                } else if (reason != NO_ORDER) {
                    failed++;
                }
            }
            for (int c = 0; c < COURIERS; c++) {
                points[playerOf(c)] += parcels.deliver(c, couriers.at[c]);
                parcels.pickUp(c, couriers.at[c], mostCarriedBy(c));
            }
            turns++;
            notes.note(position());
            return movers;
        }

        int wayTo(int courier, int junction) {
            if (!isCourier(courier)) {
                return NONE;
            }
            return streets.wayBetween(couriers.at[courier], junction, couriers.drivesVan(courier));
        }

        /** The lowest street with which a way of this length begins. */
        int firstStreetOfWay(int courier, int junction, int way) {
            if (!isCourier(courier)) {
                return NONE;
            }
            boolean van = couriers.drivesVan(courier);
            for (int s = 0; s < streets.count; s++) {
                if (streets.from[s] == couriers.at[courier] && streets.takes(s, van)
                        && streets.wayBetween(streets.to[s], junction, van) == way - 1) {
                    return s;
                }
            }
            return NONE;
        }

        int bestFor(int courier) {
            int best = NONE;
            int bestWay = 0;
            int bestValue = 0;
            for (int p = 0; p < parcels.count; p++) {
                int way = wayWith(courier, p);
                int value = parcels.value[p];
                if (way != NONE && (best == NONE || way < bestWay || way == bestWay && value > bestValue)) {
                    best = p;
                    bestWay = way;
                    bestValue = value;
                }
            }
            return best;
        }

        /** The way to a parcel and on to its target; NONE if it does not suit the courier. */
        private int wayWith(int courier, int parcel) {
            if (!isCourier(courier) || !parcels.waits(parcel) || parcels.weight[parcel] > mostCarriedBy(courier)) {
                return NONE;
            }
            boolean van = couriers.drivesVan(courier);
            int spot = parcels.spot[parcel];
            int there = streets.wayBetween(couriers.at[courier], spot, van);
            int onward = streets.wayBetween(spot, parcels.target[parcel], van);
            return there == NONE || onward == NONE ? NONE : there + onward;
        }
    }

    /** How a turn goes by the orders of a state; its rows are used again for each turn. */
    private static final class Foretelling {
        final int[] begin = new int[COURIERS];
        final int[] end = new int[COURIERS];
        final int[] load = new int[COURIERS];
        final int[] reason = new int[COURIERS];
        final int[] reasonAfterRound = new int[COURIERS];

        void settle(State state) {
            for (int c = 0; c < COURIERS; c++) {
                int street = state.couriers.ordered[c];
                boolean has = state.streets.has(street);
                begin[c] = state.couriers.at[c];
                end[c] = has ? state.streets.to[street] : NONE;
                load[c] = state.parcels.weightCarriedBy(c);
                reason[c] = has ? MOVES : NO_ORDER;
            }
            // each round but the last one fails a move, and there are as many moves as couriers at most
            for (int round = 0; round <= COURIERS; round++) {
                if (!failsInRound()) {
                    return;
                }
            }
        }

        /** All moves of a round are judged by what had failed ahead of it. */
        private boolean failsInRound() {
            boolean fails = false;
            for (int c = 0; c < COURIERS; c++) {
                reasonAfterRound[c] = reason[c] == MOVES ? whyFails(c, begin[c], end[c], load[c]) : reason[c];
            }
            for (int c = 0; c < COURIERS; c++) {
                fails = fails || reasonAfterRound[c] != reason[c];
                reason[c] = reasonAfterRound[c];
            }
            return fails;
        }

        private int whyFails(int courier, int itsBegin, int itsEnd, int itsLoad) {
            boolean exchange = false;
            boolean heavier = false;
            boolean asHeavy = false;
            boolean stays = false;
            for (int other = 0; other < COURIERS; other++) {
                if (other == courier) {
                    continue;
                }
                if (reason[other] != MOVES) {
                    stays = stays || begin[other] == itsEnd;
                } else if (end[other] == itsEnd) {
                    heavier = heavier || load[other] > itsLoad;
                    asHeavy = asHeavy || load[other] == itsLoad;
                } else {
                    exchange = exchange || end[other] == itsBegin && begin[other] == itsEnd;
                }
            }
            if (exchange) {
                return EXCHANGE;
            }
            if (heavier) {
                return HEAVIER_RIVAL;
            }
            if (asHeavy) {
                return RIVAL_AS_HEAVY;
            }
            return stays ? ONE_WHO_STAYS : MOVES;
        }
    }

    /** The buffer, read as a game: one character after another leads from one place in a part to the next. */
    private static final class GameText {
        private static final int WRONG = -1;
        private static final int PART = 0;
        private static final int ORDERED_COURIER = 1;
        private static final int ARROW = 2;
        private static final int STREET = 3;
        private static final int AFTER_ONE = 4;
        private static final int AFTER_TWO = 5;
        private static final int END = 6;
        private static final int STOPPED_COURIER = 7;

        final int[] codes = new int[MOST_CODES];
        int length = 0;
        /** The part that was read last. */
        int kind = 0;
        int courier = 0;
        int street = 0;

        int add(int code) {
            if (length < MOST_CODES) {
                codes[length] = code;
                length++;
            }
            return length;
        }

        int clear() {
            int before = length;
            length = 0;
            return before;
        }

        int errorIndex() {
            int place = PART;
            for (int i = 0; i < length; i++) {
                place = placeBehind(place, codes[i]);
                if (place == WRONG) {
                    return i;
                }
            }
            return length;
        }

        boolean isComplete() {
            int place = PART;
            for (int i = 0; i < length; i++) {
                place = placeBehind(place, codes[i]);
            }
            return place == AFTER_ONE || place == AFTER_TWO || place == END;
        }

        private static int placeBehind(int place, int code) {
            switch (place) {
                case PART:
                    return placeBehindLetter(code);
                case ORDERED_COURIER:
                    return isDigit(code, '3') ? ARROW : WRONG;
                case STOPPED_COURIER:
                    return isDigit(code, '3') ? END : WRONG;
                case ARROW:
                    return code == '>' ? STREET : WRONG;
                case STREET:
                    return placeBehindDigit(code);
                case AFTER_ONE:
                    return isDigit(code, '9') ? END : placeBehindEnd(code);
                case AFTER_TWO:
                    return isDigit(code, '3') ? END : placeBehindEnd(code);
                case END:
                    return placeBehindEnd(code);
                default:
                    return WRONG;
            }
        }

        private static int placeBehindLetter(int code) {
            switch (code) {
                case 'o':
                    return ORDERED_COURIER;
                case 's':
                    return STOPPED_COURIER;
                case 't':
                    return STREET;
                case 'r':
                    return END;
                default:
                    return WRONG;
            }
        }

        private static int placeBehindDigit(int code) {
            if (code == '1') {
                return AFTER_ONE;
            }
            if (code == '2') {
                return AFTER_TWO;
            }
            return isDigit(code, '9') ? END : WRONG;
        }

        private static int placeBehindEnd(int code) {
            return code == ';' ? PART : WRONG;
        }

        private static boolean isDigit(int code, int last) {
            return code >= '0' && code <= last;
        }

        /** Reads the part that begins at an index of a complete game, and returns where the next one begins. */
        int readPart(int start) {
            int number = 0;
            int next = start + 1;
            kind = start >= 0 && start < length ? codes[start] : 0;
            courier = 0;
            for (int i = start + 1; i > 0 && i < length && codes[i] != ';'; i++) {
                if (codes[i] == '>') {
                    courier = number;
                    number = 0;
                } else {
                    number = 10 * number + codes[i] - '0';
                }
                next = i + 1;
            }
            if (kind == 's') {
                courier = number;
            }
            street = number;
            return next + 1;
        }
    }
}
