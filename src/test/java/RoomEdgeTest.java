import java.util.Random;

/**
 * Promises 19 and 21 at their edges, with those of "==== 2.": a test of its own for each sentence that names one; the
 * sentence stands above its test.
 */
public final class RoomEdgeTest {
    private static final Due DUE = new Due();
    private static final String ALL_HAVE_ALL = "friend 0 has 0 1 2 3;friend 1 has 0 1 2 3;friend 2 has 0 1 2 3;"
        + "friend 3 has 0 1 2 3;friend 4 has 0 1 2 3;";
    private static final String TWO = "friend 0 has 2 3;friend 1 has 2 3;";

    public static void main(String[] args) {
        roomOfFew();
        roomOfAll();
        roomAsSafe();
        roomNotAsTold();
        cheapestOfNothing();
        cheapestNotAsTold();
        noSetDoes();
        costsAtBounds();
        leastCost();
        fewest();
        leastNumber();
        mendsOnForNothing();
        forbiddenStay();
        mustStillHaveBest();
        dearest();
        DUE.end();
    }

    private static void cheapest(Made made, int room, int price, int number, int many) {
        String name = "cheapest(" + room + ") of " + made.written();
        DUE.idle(name + " price", made, x -> x.cheapest(room, 0), price);
        DUE.idle(name + " number", made, x -> x.cheapest(room, 1), number);
        DUE.idle(name + " how many", made, x -> x.cheapest(room, 2), many);
    }

    private static void noCheapest(Made made, int room) {
        cheapest(made, room, -1, -1, -1);
    }

    // "How many pairs of a ROOM (bits of FRIENDS) aren't SAFE (k NONE)": of none, of one, of those without WAYS
    private static void roomOfFew() {
        Made all = Made.told(ALL_HAVE_ALL);
        DUE.idle("a ROOM of none", all, x -> x.room(0, -1), 0);
        DUE.is("its first", all.object().room(0, 0), -1);
        for (int a = 0; a < 5; a++) {
            int one = 1 << a;
            DUE.idle("a ROOM of one", all, x -> x.room(one, -1), 0);
            DUE.is("its first", all.object().room(one, 0), -1);
            for (int b = a + 1; b < 5; b++) {
                int two = one | 1 << b;
                DUE.idle("a ROOM of two", all, x -> x.room(two, -1), 2);
                DUE.is("its first pair", all.object().room(two, 0), 5 * a + b);
                DUE.is("its last pair", all.object().room(two, 1), 5 * b + a);
                DUE.is("none behind it", all.object().room(two, 2), -1);
            }
        }
        DUE.is("a ROOM of all without WAYS", Made.fresh().object().room(31, -1), 0);
        DUE.is("its first", Made.fresh().object().room(31, 0), -1);
    }

    // "the k-th: 5 times a and b, rising"
    private static void roomOfAll() {
        Made all = Made.told(ALL_HAVE_ALL);
        DUE.idle("all pairs", all, x -> x.room(31, -1), 20);
        int k = 0;
        for (int pair = 0; pair < 25; pair++) {
            if (pair / 5 != pair % 5) {
                int place = k;
                DUE.idle("pair " + k, all, x -> x.room(31, place), pair);
                k++;
            }
        }
        DUE.idle("behind the last", all, x -> x.room(31, 20), -1);
        DUE.is("two behind the last", all.object().room(31, 21), -1);
    }

    private static void roomAsSafe() {
        Random random = new Random(19);
        for (int round = 0; round < 300; round++) {
            TalkDown x = new TalkDown();
            for (int friend = 0; friend < 5; friend++) {
                x.ways(friend, random.nextInt(16) & random.nextInt(16));
            }
            x.mend(0, random.nextBoolean());
            x.retries(random.nextInt(3));
            x.broken(random.nextInt(16) & random.nextInt(16));
            int set = random.nextInt(32);
            int k = 0;
            for (int pair = 0; pair < 25; pair++) {
                boolean inside = (set >> pair / 5 & 1) != 0 && (set >> pair % 5 & 1) != 0;
                if (inside && x.safe(pair / 5, pair % 5) == 0) {
                    DUE.is("pair " + k + " of " + set, x.room(set, k), pair);
                    k++;
                }
            }
            DUE.is("pairs of " + set, x.room(set, -1), k);
            DUE.is("behind the last of " + set, x.room(set, k), -1);
        }
    }

    // "NONE: not as told."
    private static void roomNotAsTold() {
        Made all = Edges.rich().and(x -> x.ways(0, 15)).and(x -> x.ways(1, 15));
        DUE.is("as told", all.object().room(31, -1) > 2, true);
        for (int set : Edges.outside(0, 31)) {
            DUE.idle("room(" + set + ", NONE)", all, x -> x.room(set, -1), -1);
            DUE.idle("room(" + set + ", 0)", all, x -> x.room(set, 0), -1);
            DUE.is("room(" + set + ", 1)", all.object().room(set, 1), -1);
        }
        for (int k : Edges.outside(-1, 19)) {
            DUE.idle("room(31, " + k + ")", all, x -> x.room(31, k), -1);
            DUE.is("room(0, " + k + ")", all.object().room(0, k), -1);
        }
    }

    // a ROOM that needs no more MENDS: a set of none, for nothing
    private static void cheapestOfNothing() {
        cheapest(Made.fresh(), 31, 0, 0, 0);
        cheapest(Made.told(ALL_HAVE_ALL), 0, 0, 0, 0);
        for (int friend = 0; friend < 5; friend++) {
            cheapest(Made.told(ALL_HAVE_ALL), 1 << friend, 0, 0, 0);
        }
        String free = "cost bind 0;cost mark 0;cost pin 0;cost forbid 0 0;cost forbid 1 0;cost forbid 2 0;cost forbid 3 0;";
        cheapest(Made.told(free), 31, 0, 0, 0);
        cheapest(Made.told(TWO + "mend bind;" + free), 3, 0, 0, 0);
    }

    // "NONE: .. not as told."
    private static void cheapestNotAsTold() {
        Made two = Edges.rich();
        DUE.is("as told", two.object().cheapest(31, 0) >= 0, true);
        for (int set : Edges.outside(0, 31)) {
            for (int what = 0; what < 3; what++) {
                int which = what;
                DUE.idle("cheapest(" + set + ", " + what + ")", two, x -> x.cheapest(set, which), -1);
            }
        }
        for (int what : Edges.outside(0, 2)) {
            DUE.idle("cheapest(3, " + what + ")", two, x -> x.cheapest(3, what), -1);
            DUE.is("cheapest(0, " + what + ")", two.object().cheapest(0, what), -1);
            DUE.is("cheapest(32, " + what + ")", two.object().cheapest(32, what), -1);
        }
    }

    // "NONE: no set does"
    private static void noSetDoes() {
        noCheapest(Made.told("must 0 1;"), 31);
        noCheapest(Made.told("friend 0 has 0;friend 1 has 1;must 0 1;"), 3);
        noCheapest(Made.told("friend 0 has 0 1;friend 1 has 0 1;friend 2 has 0;friend 3 has 1;broken 0 1;must 0 2;must 1 3;"), 3);
        noCheapest(Made.told("friend 0 has 3;friend 1 has 3;must 1 0;forbid 3;"), 3);
        Made last = Made.told("friend 0 has 3;friend 1 has 3;must 1 0;");
        cheapest(last, 3, 0, 0, 0);
        noCheapest(last.and(x -> x.ways(1, 4)), 3);
        cheapest(last.and(x -> x.ways(1, 4)).and(x -> x.must(0, 1, false)), 3, 10, 1, 1);
    }

    // "costs (0 to 100; 10 at first)"
    private static void costsAtBounds() {
        cheapest(Made.told(TWO), 3, 10, 1, 1);
        cheapest(Made.told(TWO + "cost bind 0;"), 3, 0, 1, 1);
        cheapest(Made.told(TWO + "cost bind 9;"), 3, 9, 1, 1);
        cheapest(Made.told(TWO + "cost bind 11;"), 3, 10, 32, 1);
        cheapest(Made.told(TWO + "cost bind 100;cost forbid 2 100;cost forbid 3 100;"), 3, 100, 1, 1);
        cheapest(Made.told(TWO + "cost bind 100;cost forbid 2 99;cost forbid 3 100;"), 3, 99, 32, 1);
        cheapest(Made.told(TWO + "cost bind 100;cost forbid 2 100;cost forbid 3 99;"), 3, 99, 64, 1);
    }

    // "the one of least cost": ahead of the fewest and of the least number
    private static void leastCost() {
        String three = "friend 0 has 1 2 3;friend 1 has 1 2 3;";
        cheapest(Made.told(three + "cost forbid 1 5;cost forbid 2 4;"), 3, 9, 48, 2);
        cheapest(Made.told(three + "cost forbid 2 5;cost forbid 3 4;"), 3, 9, 96, 2);
        cheapest(Made.told(three + "cost bind 1;cost forbid 1 0;cost forbid 2 0;"), 3, 0, 48, 2);
        cheapest(Made.told(TWO + "retries 1;cost bind 4;cost mark 5;"), 3, 9, 3, 2);
    }

    // "of several the fewest": ahead of the least number
    private static void fewest() {
        String three = "friend 0 has 1 2 3;friend 1 has 1 2 3;";
        cheapest(Made.told(three + "cost forbid 1 5;cost forbid 2 5;"), 3, 10, 1, 1);
        String marked = TWO + "retries 1;cost bind 5;cost mark 5;cost forbid 2 100;cost forbid 3 ";
        cheapest(Made.told(marked + "9;"), 3, 9, 64, 1);
        cheapest(Made.told(marked + "10;"), 3, 10, 64, 1);
        cheapest(Made.told(marked + "11;"), 3, 10, 3, 2);
        cheapest(Made.told(TWO + "cost mark 0;cost pin 0;cost forbid 0 0;cost forbid 1 0;"), 3, 10, 1, 1);
    }

    // "of these the least as a number (BIND 1, MARK 2, PIN 4, WAY w 8 times 2 to the w)"
    private static void leastNumber() {
        cheapest(Made.told(TWO), 3, 10, 1, 1);
        cheapest(Made.told(TWO + "cost bind 11;"), 3, 10, 32, 1);
        cheapest(Made.told("friend 0 has 0 1;friend 1 has 0 1;cost bind 11;"), 3, 10, 8, 1);
        cheapest(Made.told("friend 0 has 1 2;friend 1 has 1 2;cost bind 11;"), 3, 10, 16, 1);
        cheapest(Made.told("friend 0 has 3;friend 1 has 2 3;cost bind 11;"), 3, 10, 32, 1);
        cheapest(Made.told("friend 0 has 3;friend 1 has 2 3;cost bind 11;cost forbid 2 11;"), 3, 10, 64, 1);
        Made met = Made.told(TWO + "retries 1;mend bind;cost forbid 2 100;cost forbid 3 100;").and(x -> x.meet(0, 1));
        cheapest(met, 3, 10, 2, 1);
        cheapest(met.and(x -> x.cost(1, 11)), 3, 10, 4, 1);
        String all = "friend 0 has 0 1 2 3;friend 1 has 0 1 2 3;broken 0 1 2 3;";
        cheapest(Made.told(all), 3, 30, 56, 3);
        cheapest(Made.told(all + "cost forbid 0 11;"), 3, 30, 112, 3);
    }

    // "MENDS that are on .. stay so, for nothing"
    private static void mendsOnForNothing() {
        cheapest(Made.told(TWO + "mend bind;cost bind 100;"), 3, 0, 0, 0);
        cheapest(Made.told(TWO + "mend bind;cost bind 100;retries 1;"), 3, 10, 2, 1);
        cheapest(Made.told(TWO + "mend mark;cost mark 100;retries 1;cost forbid 2 11;cost forbid 3 11;"), 3, 10, 1, 1);
        cheapest(Made.told(TWO + "mend bind;mend mark;retries 3;"), 3, 0, 0, 0);
        cheapest(Made.told(TWO + "mend pin;cost pin 100;"), 3, 10, 1, 1);
        cheapest(Made.told(TWO + "mend bind;mend mark;mend pin;forbid 0;forbid 1;forbid 2;forbid 3;"), 31, 0, 0, 0);
    }

    // "WAYS that are FORBIDDEN stay so, for nothing"
    private static void forbiddenStay() {
        cheapest(Made.told(TWO + "forbid 2;cost forbid 2 100;"), 3, 0, 0, 0);
        String three = "friend 0 has 1 2 3;friend 1 has 1 2 3;cost bind 100;";
        cheapest(Made.told(three + "forbid 1;cost forbid 1 100;"), 3, 10, 32, 1);
        noCheapest(Made.told("friend 0 has 1;friend 1 has 1;forbid 1;must 0 1;"), 3);
        cheapest(Made.told("friend 0 has 1;friend 1 has 1;forbid 1;"), 3, 0, 0, 0);
    }

    // "those that MUST talk (told pairs) still have a BEST"
    private static void mustStillHaveBest() {
        String told = "friend 0 has 2 3;friend 1 has 2 3;friend 2 has 2;friend 3 has 3;cost bind 100;";
        cheapest(Made.told(told), 3, 10, 32, 1);
        cheapest(Made.told(told + "must 0 1;"), 3, 10, 32, 1);
        cheapest(Made.told(told + "must 0 2;"), 3, 10, 64, 1);
        cheapest(Made.told(told + "must 2 1;must 1 3;"), 3, 100, 1, 1);
        noCheapest(Made.told(told + "must 2 3;"), 3);
        noCheapest(Made.told(told + "must 0 4;"), 3);
        cheapest(Made.told(told + "must 1 3;").and(x -> x.must(3, 1, false)), 3, 10, 32, 1);
    }

    /** All BROKEN: only one WAY left for all is SAFE, and the costs are the highest. */
    private static void dearest() {
        String costs = "cost bind 100;cost mark 100;cost pin 100;cost forbid 0 100;cost forbid 1 100;cost forbid 2 100;cost forbid 3 100;";
        cheapest(Made.told(ALL_HAVE_ALL + "broken 0 1 2 3;retries 3;" + costs), 31, 300, 56, 3);
        cheapest(Made.told(ALL_HAVE_ALL + "retries 3;" + costs), 31, 200, 3, 2);
        cheapest(Made.told(ALL_HAVE_ALL + costs), 31, 100, 1, 1);
    }

    private RoomEdgeTest() {
    }
}
