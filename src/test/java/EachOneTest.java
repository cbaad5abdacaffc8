/** One by one: each junction, pair and three of junctions, street, courier, parcel, load, note and place in a text. */
public final class EachOneTest {
    private static final Class<IllegalStateException> STATE = IllegalStateException.class;
    private static final Checks CHECKS = new Checks();

    public static void main(String[] args) {
        for (int from = 0; from <= 9; from++) {
            for (int to = 0; to <= 9; to++) {
                if (from != to) {
                    onlyThisStreetIsThere(from, to);
                    oneStreetReaches(from, to);
                    oneParcelGoes(from, to);
                    oneExchange(from, to);
                    waysByAThird(from, to);
                }
            }
        }
        eachJunctionTaken();
        eachStreetOfAll();
        eachStreetTwice();
        eachStreetAlone();
        eachWayOfARing();
        eachParcelDelivered();
        eachLoad();
        eachNote(0);
        eachNote(1);
        eachPlaceInAText();
        CHECKS.end("EachOneTest");
    }

    /** Places a courier; another one that is there gives way to a junction that is neither of the two. */
    private static void put(CourierClash g, int courier, int junction, int other) {
        if (g.junctionOf(courier) != junction) {
            leave(g, junction, other);
            g.place(courier, junction);
        }
    }

    private static void leave(CourierClash g, int junction, int other) {
        for (int c = 0; c < 4; c++) {
            if (g.junctionOf(c) == junction) {
                g.place(c, free(g, junction, other));
            }
        }
    }

    private static int free(CourierClash g, int junction, int other) {
        for (int j = 9; j >= 0; j--) {
            boolean taken = j == junction || j == other;
            for (int c = 0; c < 4; c++) {
                taken = taken || g.junctionOf(c) == j;
            }
            if (!taken) {
                return j;
            }
        }
        throw new AssertionError("four couriers leave six of ten junctions");
    }

    /** "No two streets have the same beginning and the same end.": that one is refused, and no other one. */
    private static void onlyThisStreetIsThere(int from, int to) {
        CourierClash g = Checks.town("" + from + to);
        for (int begin = 0; begin <= 9; begin++) {
            for (int end = 0; end <= 9; end++) {
                String what = "2 " + begin + end + " where " + from + to + " is";
                if (begin == from && end == to) {
                    CHECKS.refused(what, g, STATE, () -> g.addStreet(from, to, true));
                } else if (begin != end) {
                    CHECKS.due(what, g.addStreet(begin, end, true), 1);
                    g.undo();
                }
            }
        }
    }

    private static void oneStreetReaches(int from, int to) {
        String what = from + " to " + to;
        for (int c = 0; c < 4; c++) {
            int courier = c;
            CourierClash g = Checks.town("" + from + to);
            put(g, c, from, to);
            CHECKS.due("45 " + what, g.reach(c), 1 << from | 1 << to);
            CHECKS.due("46 " + what, g.reachByJoining(c), 1 << from | 1 << to);
            for (int j = 0; j <= 9; j++) {
                CHECKS.due("47 " + what, g.distance(c, j), j == from ? 0 : j == to ? 1 : -1);
            }
            CHECKS.due("48 " + what, g.nextStreet(c, to), 0);
            put(g, c, to, from);
            CHECKS.due("45 not back " + what, g.reach(c), 1 << to);
            CHECKS.due("46 not back " + what, g.reachByJoining(c), 1 << to);
            CHECKS.due("47 not back " + what, g.distance(c, from), -1);
            CHECKS.answered("48 not back " + what, () -> g.nextStreet(courier, from), STATE.getSimpleName());
        }
    }

    private static void oneParcelGoes(int from, int to) {
        for (int c = 0; c < 4; c++) {
            String what = " from " + from + " to " + to + " by " + c;
            CourierClash g = Checks.town("" + from + to);
            put(g, c, from, to);
            leave(g, to, from);
            g.addParcel(from, to, 1, 4);
            CHECKS.due("37 waits" + what, g.placeOf(0), from);
            CHECKS.due("49 suits" + what, g.bestParcel(c), 0);
            g.turn();
            CHECKS.due("36 picked up" + what, g.courierOf(0), c);
            CHECKS.due("9 leads" + what, g.order(c, 0), to);
            CHECKS.due("11 goes" + what, g.turn(), 1);
            CHECKS.due("26 is there" + what, g.junctionOf(c), to);
            CHECKS.due("35 delivered" + what, g.isDelivered(0), true);
            CHECKS.due("37 delivered" + what, g.placeOf(0), to);
            CHECKS.due("38 points" + what, g.pointsOf(c / 2), 4);
            CHECKS.due("39 points" + what, g.pointsByParcels(c / 2), 4);
        }
    }

    private static void oneExchange(int one, int two) {
        for (int c = 0; c < 4; c++) {
            int other = (c + 1 + one % 3) % 4;
            CourierClash g = Checks.town("" + one + two + " " + two + one);
            put(g, c, one, two);
            put(g, other, two, one);
            g.order(c, 0);
            g.order(other, 1);
            for (int each = 0; each < 4; each++) {
                CHECKS.due("51 exchange", g.wouldGo(each), each == c || each == other ? 2 : 1);
            }
            CHECKS.due("11 exchange", g.turn(), 0);
            CHECKS.due("41 exchange", g.failedMoves(), 2);
        }
    }

    private static void waysByAThird(int from, int to) {
        for (int by = 0; by <= 9; by++) {
            if (by != from && by != to) {
                for (int first = 0; first < 2; first++) {
                    String begins = "" + from + by;
                    String ends = "" + by + to;
                    CourierClash g = Checks.town(first == 0 ? begins + " " + ends : ends + " " + begins);
                    int c = by % 4;
                    put(g, c, from, to);
                    CHECKS.due("45 by a third", g.reach(c), 1 << from | 1 << by | 1 << to);
                    CHECKS.due("46 by a third", g.reachByJoining(c), 1 << from | 1 << by | 1 << to);
                    CHECKS.due("47 by a third", g.distance(c, to), 2);
                    CHECKS.due("47 to it", g.distance(c, by), 1);
                    CHECKS.due("48 by a third", g.nextStreet(c, to), first);
                    CHECKS.due("48 to it", g.nextStreet(c, by), first);
                }
            }
        }
    }

    /** "No two couriers are at the same junction." */
    private static void eachJunctionTaken() {
        for (int c = 0; c < 4; c++) {
            for (int j = 0; j <= 9; j++) {
                CourierClash g = Checks.town("");
                put(g, c, j, j);
                int there = j;
                for (int other = 0; other < 4; other++) {
                    if (other != c) {
                        int courier = other;
                        CHECKS.refused("4 taken by " + c, g, STATE, () -> g.place(courier, there));
                    }
                }
                CHECKS.due("4 its own", g.place(c, j), j);
                int away = free(g, j, j);
                CHECKS.due("4 leaves", g.place(c, away), j);
                CHECKS.due("26 is away", g.junctionOf(c), away);
                int other = (c + 1) % 4;
                int before = g.junctionOf(other);
                CHECKS.due("4 left to another", g.place(other, j), before);
            }
        }
    }

    /** Each street of 24 is taken, closed and opened by its own number. */
    private static void eachStreetOfAll() {
        for (int s = 0; s < 24; s++) {
            for (int c = 0; c < 4; c++) {
                CourierClash g = Checks.fullTown();
                int from = Checks.fullTownFrom(s);
                int to = Checks.fullTownTo(s);
                put(g, c, from, to);
                for (int other = 0; other < 24; other++) {
                    CHECKS.due("50 street " + other, g.whyNoOrder(c, other), Checks.fullTownFrom(other) == from ? 0 : 2);
                }
                CHECKS.due("9 leads", g.order(c, s), to);
                CHECKS.due("30 ordered", g.orderOf(c), s);
                int next = s % 9 == 8 || s == 23 ? s - 1 : s + 1;
                g.toggleStreet(next);
                CHECKS.due("29 another one closed", g.hasOrder(c), true);
                CHECKS.due("3 closed", g.toggleStreet(s), false);
                CHECKS.due("29 closed", g.hasOrder(c), false);
                CHECKS.due("50 closed", g.whyNoOrder(c, s), 3);
                CHECKS.due("3 opened", g.toggleStreet(s), true);
                CHECKS.due("50 opened", g.whyNoOrder(c, s), 0);
                CHECKS.due("29 opened", g.hasOrder(c), false);
            }
        }
    }

    private static void eachStreetTwice() {
        CourierClash g = new CourierClash();
        for (int count = 0; count < 24; count++) {
            for (int s = 0; s < count; s++) {
                int street = s;
                CHECKS.answered("2 twice", () -> g.addStreet(Checks.fullTownFrom(street), Checks.fullTownTo(street), true),
                        STATE.getSimpleName());
            }
            CHECKS.due("2 once", g.addStreet(Checks.fullTownFrom(count), Checks.fullTownTo(count), false), count);
        }
    }

    /** The others of 24 are closed. */
    private static void eachStreetAlone() {
        for (int s = 0; s < 24; s++) {
            CourierClash g = Checks.fullTown();
            for (int other = 0; other < 24; other++) {
                if (other != s) {
                    g.toggleStreet(other);
                }
            }
            int from = Checks.fullTownFrom(s);
            int to = Checks.fullTownTo(s);
            put(g, 0, from, to);
            CHECKS.due("45 alone", g.reach(0), 1 << from | 1 << to);
            CHECKS.due("46 alone", g.reachByJoining(0), 1 << from | 1 << to);
            CHECKS.due("47 alone", g.distance(0, to), 1);
            CHECKS.due("48 alone", g.nextStreet(0, to), s);
            g.toggleVan(0);
            CHECKS.due("45 with a van", g.reach(0), s % 2 == 1 ? 1 << from : 1 << from | 1 << to);
            CHECKS.due("46 with a van", g.reachByJoining(0), s % 2 == 1 ? 1 << from : 1 << from | 1 << to);
        }
    }

    /** All lengths of ways, 1 to 9, from each junction, by streets whose numbers begin anywhere in the ring. */
    private static void eachWayOfARing() {
        for (int shift = 0; shift <= 9; shift++) {
            CourierClash g = new CourierClash();
            for (int s = 0; s <= 9; s++) {
                g.addStreet((s + shift) % 10, (s + shift + 1) % 10, false);
            }
            for (int c = 0; c < 4; c++) {
                for (int way = 1; way <= 9; way++) {
                    int to = (c + way) % 10;
                    CHECKS.due("47 round", g.distance(c, to), way);
                    CHECKS.due("48 round", g.nextStreet(c, to), (c - shift + 10) % 10);
                }
            }
            put(g, 3, shift, shift);
            for (int way = 1; way <= 9; way++) {
                CHECKS.due("47 round from anywhere", g.distance(3, (shift + way) % 10), way);
                CHECKS.due("48 round from anywhere", g.nextStreet(3, (shift + way) % 10), 0);
            }
        }
    }

    private static void eachParcelDelivered() {
        for (int c = 0; c < 4; c++) {
            for (int parcel = 0; parcel < 8; parcel++) {
                CourierClash g = Checks.town("");
                for (int p = 0; p < 8; p++) {
                    g.addParcel(p == parcel ? c : 8, 9, 2, p + 1);
                }
                g.turn();
                CHECKS.due("28 of it", g.loadOf(c), 2);
                CHECKS.due("52 of it", g.meanLoad(), 0.5f);
                g.place(c, 9);
                g.turn();
                for (int p = 0; p < 8; p++) {
                    CHECKS.due("34 the others", g.isWaiting(p), p != parcel);
                    CHECKS.due("35 it alone", g.isDelivered(p), p == parcel);
                    CHECKS.due("37 the others", g.placeOf(p), p == parcel ? 9 : 8);
                }
                CHECKS.due("36 by", g.courierOf(parcel), c);
                CHECKS.due("38 its value", g.pointsOf(c / 2), parcel + 1);
                CHECKS.due("39 its value", g.pointsByParcels(c / 2), parcel + 1);
                CHECKS.due("39 not the other player's", g.pointsByParcels(1 - c / 2), 0);
                CHECKS.due("53 one of eight", g.deliveredShare(), 0.125);
            }
        }
    }

    /** Rivals with each load, up to twice the greatest capacity: as heavy, and lighter by one. */
    private static void eachLoad() {
        for (int load = 0; load <= 18; load++) {
            for (int less = 0; less <= (load == 0 ? 0 : 1); less++) {
                CourierClash g = Checks.town("28 18");
                g.setCapacity(9);
                g.toggleVan(1);
                g.toggleVan(2);
                loads(g, 1, load);
                loads(g, 2, load - less);
                g.turn();
                CHECKS.due("28 load", g.loadOf(1), load);
                CHECKS.due("28 load or one less", g.loadOf(2), load - less);
                g.order(2, 0);
                g.order(1, 1);
                CHECKS.due("51 of the first", g.wouldGo(1), less == 0 ? 4 : 0);
                CHECKS.due("51 of the second", g.wouldGo(2), less == 0 ? 4 : 3);
                CHECKS.due("11 movers", g.turn(), less);
                CHECKS.due("32 of the second", g.outcomeOf(2), less == 0 ? 4 : 3);
            }
        }
    }

    private static void loads(CourierClash g, int courier, int load) {
        for (int rest = load; rest > 0; rest -= Math.min(5, rest)) {
            g.addParcel(courier, 9, Math.min(5, rest), 1);
        }
    }

    /** Every other turn nobody moves, so that each two notes behind one another are alike, and no others are. */
    private static void eachNote(int firstStill) {
        CourierClash g = new CourierClash();
        for (int j = 0; j < 10; j++) {
            g.addStreet(j, (j + 1) % 10, false);
        }
        g.setLimit(60);
        int[] at = {0, 1, 2, 3};
        int steps = 0;
        for (int turn = 0; turn < 60; turn++) {
            boolean still = turn % 2 == firstStill;
            for (int c = 3; c >= (steps % 10 == 9 ? 3 : 0) && !still; c--) {
                g.order(c, at[c]);
                at[c] = (at[c] + 1) % 10;
            }
            int moved = g.turn();
            steps += still ? 0 : 1;
            CHECKS.due("11 moved", moved > 0, !still);
            CHECKS.due("42 noted", g.timesNoted(), still ? 2 : 1);
            CHECKS.due("43 noted", g.positionsNoted(), 1 + steps);
            CHECKS.due("44 not again", g.whyOver(), turn == 59 ? 3 : 0);
        }
    }

    /** A part that begins at each place where one can begin, behind parts of three and four characters. */
    private static void eachPlaceInAText() {
        for (int start = 0; start <= 55; start++) {
            StringBuilder ahead = new StringBuilder(start == 2 ? "r;" : start == 5 ? "o3>4;" : "");
            int parts = ahead.length() == 0 ? 0 : 1;
            int fours = start % 3;
            for (int rest = start - ahead.length(); rest > 0 && rest >= 4 * fours; parts++) {
                ahead.append(fours > 0 ? "t10;" : "s3;");
                rest -= fours > 0 ? 4 : 3;
                fours -= fours > 0 ? 1 : 0;
            }
            if (ahead.length() == start) {
                for (String part : new String[] {"o0>0", "o1>12", "s2", "t3", "t11", "r"}) {
                    partAt(ahead.toString(), parts, part);
                }
            }
        }
    }

    private static void partAt(String ahead, int parts, String part) {
        CourierClash g = Checks.town("07 18 28 29 35 45 46 47 48 49 54 56 17");
        g.order(2, 2);
        String text = ahead + part;
        CHECKS.due("15 " + text, Checks.played(g, text), parts + 1);
        int turns = (part.equals("r") ? 1 : 0) + (ahead.equals("r;") ? 1 : 0);
        CHECKS.due("40 " + text, g.turnsPassed(), turns);
        CHECKS.due("29 first of " + text, g.hasOrder(0), part.equals("o0>0"));
        CHECKS.answered("30 second of " + text, () -> g.orderOf(1), part.equals("o1>12") ? (Object) 12 : STATE.getSimpleName());
        CHECKS.due("29 third of " + text, g.hasOrder(2), turns == 0 && !part.equals("s2"));
        CHECKS.due("25 three of " + text, g.isOpen(3), !part.equals("t3"));
        CHECKS.due("25 eleven of " + text, g.isOpen(11), !part.equals("t11"));
        CHECKS.due("16 " + text, g.hasStopped(), false);
    }
}
