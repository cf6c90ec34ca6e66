import java.util.Random;

/** Promises 19 and 21: ROOMS and their MENDS of least cost. */
public final class RoomTest {
    private static final Due DUE = new Due();
    private static final int[] WRONG = {-1, 32, 33, 64, Integer.MIN_VALUE, Integer.MAX_VALUE};

    public static void main(String[] args) {
        rooms();
        cheapest();
        ties();
        musts();
        wrongArguments();
        manyRooms();
        DUE.end();
    }

    private static void rooms() {
        TalkDown x = Tapes.told("friend 0 has 3;friend 1 has 2 3;friend 4 has 2 3;");
        // 0 to 1 and 0 to 4 by two changes, all others by one
        DUE.is("room(31)", x.room(31, -1), 6);
        int[] pairs = {1, 4, 5, 9, 20, 21};
        for (int k = 0; k < pairs.length; k++) {
            DUE.is("room(31, " + k + ")", x.room(31, k), pairs[k]);
        }
        DUE.is("room(31, 6)", x.room(31, 6), -1);
        DUE.is("room(18)", x.room(18, -1), 2);
        DUE.is("room(18, 0)", x.room(18, 0), 9);
        DUE.is("room(18, 1)", x.room(18, 1), 21);
        DUE.is("room(18, 2)", x.room(18, 2), -1);
        DUE.is("room of one", x.room(1, -1), 0);
        DUE.is("room of none", x.room(0, -1), 0);
        DUE.is("none of none", x.room(0, 0), -1);
        DUE.is("room of those without WAYS", x.room(12, -1), 0);
        x.mend(0, true);
        DUE.is("room with BIND", x.room(31, -1), 0);
        x.retries(1);
        DUE.is("room with BIND and a retry", x.room(31, -1), 2);
        DUE.is("room with BIND and a retry, 0", x.room(31, 0), 9);
        DUE.is("room with BIND and a retry, 1", x.room(31, 1), 21);
    }

    private static void cheapest() {
        TalkDown x = Tapes.told("friend 0 has 2 3;friend 1 has 2 3;");
        answers(x, 3, 10, 1, 1);
        x.cost(0, 21);
        // WAY 2 FORBIDDEN leaves 3 alone: no FALL, and with one WAY none end APART
        answers(x, 3, 10, 32, 1);
        x.cost(5, 100);
        answers(x, 3, 10, 64, 1);
        x.cost(6, 100);
        answers(x, 3, 21, 1, 1);
        x.mend(0, true);
        answers(x, 3, 0, 0, 0);
        x.retries(1);
        answers(x, 3, 10, 2, 1);
        x.cost(1, 100);
        // PIN alone helps only those who have met
        answers(x, 3, 100, 2, 1);
        x.meet(1, 0);
        answers(x, 3, 10, 4, 1);
        answers(x, 0, 0, 0, 0);
        answers(x, 1, 0, 0, 0);
    }

    private static void ties() {
        TalkDown x = Tapes.told("friend 0 has 2 3;friend 1 has 2 3;cost bind 0;cost mark 0;cost pin 0;"
            + "cost forbid 0 0;cost forbid 1 0;cost forbid 2 0;cost forbid 3 0;");
        answers(x, 3, 0, 1, 1);
        x.cost(0, 1);
        answers(x, 3, 0, 32, 1);
        x.cost(5, 1);
        answers(x, 3, 0, 64, 1);
        x.cost(6, 1);
        answers(x, 3, 1, 1, 1);
        // two for 0 against one for 1: the cost counts ahead of how many
        TalkDown y = Tapes.told("friend 0 has 1 2 3;friend 1 has 1 2 3;cost bind 1;cost forbid 1 0;cost forbid 2 0;");
        answers(y, 3, 0, 48, 2);
        y.cost(4, 1);
        answers(y, 3, 1, 1, 1);
    }

    private static void musts() {
        TalkDown x = Tapes.told("friend 0 has 0 3;friend 1 has 0 3;friend 2 has 0;friend 3 has 3;cost bind 100;cost forbid 3 5;");
        answers(x, 3, 5, 64, 1);
        x.must(0, 3, true);
        answers(x, 3, 10, 8, 1);
        x.must(2, 1, true);
        answers(x, 3, 100, 1, 1);
        x.must(3, 0, false);
        answers(x, 3, 5, 64, 1);
        x.must(2, 3, true);
        answers(x, 3, -1, -1, -1);
        x.must(2, 3, false);
        x.mend(0, true);
        x.broken(9);
        DUE.is("BIND can be forged, so WAY 3 goes", x.cheapest(3, 1), 64);
        x.must(0, 3, true);
        answers(x, 3, -1, -1, -1);
        // one of WAYS 0 and 1 must go, but those who MUST talk need both
        TalkDown y = Tapes.told("friend 0 has 0 1;friend 1 has 0 1;friend 2 has 0;friend 3 has 1;broken 0 1;must 0 2;must 1 3;");
        answers(y, 3, -1, -1, -1);
        y.must(0, 2, false);
        answers(y, 3, 10, 8, 1);
    }

    private static void wrongArguments() {
        TalkDown x = Tapes.told("friend 0 has 2 3;friend 1 has 2 3;");
        for (int wrong : WRONG) {
            DUE.is("room of no set", x.room(wrong, -1), -1);
            DUE.is("room of no set, 0", x.room(wrong, 0), -1);
            DUE.is("cheapest of no set", x.cheapest(wrong, 0), -1);
            DUE.is("cheapest of no what", x.cheapest(3, wrong), -1);
        }
        DUE.is("room(3, -2)", x.room(3, -2), -1);
        DUE.is("room(3, least)", x.room(3, Integer.MIN_VALUE), -1);
        DUE.is("room(3, greatest)", x.room(3, Integer.MAX_VALUE), -1);
        DUE.is("cheapest(3, 3)", x.cheapest(3, 3), -1);
    }

    private static void answers(TalkDown x, int set, int price, int number, int many) {
        String name = "cheapest(" + set + "), due " + price + " " + number + " " + many;
        DUE.is(name + ": 0", x.cheapest(set, 0), price);
        DUE.is(name + ": 1", x.cheapest(set, 1), number);
        DUE.is(name + ": 2", x.cheapest(set, 2), many);
    }

    /** Against all sets of MENDS switched on one by one. */
    private static void manyRooms() {
        Random random = new Random(7);
        for (int round = 0; round < 400; round++) {
            int[] costs = new int[7];
            Made made = anyRoom(random, costs);
            int set = random.nextInt(32);
            int number = cheapestByTrial(made, set, costs);
            int price = number < 0 ? -1 : sum(costs, number);
            answers(made.object(), set, price, number, number < 0 ? -1 : Integer.bitCount(number));
        }
    }

    private static Made anyRoom(Random random, int[] costs) {
        Made made = Made.fresh();
        for (int friend = 0; friend < 5; friend++) {
            made = withWays(made, friend, random.nextInt(16));
        }
        for (int meeting = 0; meeting < 6; meeting++) {
            int a = random.nextInt(5);
            int b = random.nextInt(5);
            made = made.and(x -> x.meet(a, b));
        }
        if (random.nextBoolean()) {
            made = withWays(made, random.nextInt(5), random.nextInt(16));
        }
        int broken = random.nextInt(16) & random.nextInt(16);
        int retries = random.nextInt(4);
        made = made.and(x -> x.broken(broken)).and(x -> x.retries(retries));
        for (int mend = 0; mend < 7; mend++) {
            int which = mend;
            boolean on = random.nextInt(6) == 0;
            costs[mend] = random.nextInt(3) * 5;
            made = made.and(x -> x.cost(which, costs[which])).and(x -> x.mend(which, on));
        }
        for (int must = random.nextInt(4); must > 0; must--) {
            int a = random.nextInt(5);
            int b = random.nextInt(5);
            made = made.and(x -> x.must(a, b, true));
        }
        return made;
    }

    private static Made withWays(Made made, int friend, int set) {
        return made.and(x -> x.ways(friend, set));
    }

    private static int cheapestByTrial(Made made, int set, int[] costs) {
        int best = -1;
        String before = made.written();
        for (int number = 0; number < 128; number++) {
            if (isOffEach(number, before) && isMended(made.object(), number, set, before) && isAhead(number, best, costs)) {
                best = number;
            }
        }
        return best;
    }

    private static boolean isOffEach(int number, String before) {
        for (int mend = 0; mend < 7; mend++) {
            String name = mend > 2 ? "forbid " + (mend - 3) : "mend " + new String[] {"bind", "mark", "pin"}[mend];
            if ((number >> mend & 1) != 0 && (";" + before).contains(";" + name + ";")) {
                return false;
            }
        }
        return true;
    }

    private static boolean isMended(TalkDown x, int number, int set, String before) {
        for (int mend = 0; mend < 7; mend++) {
            if ((number >> mend & 1) != 0) {
                x.mend(mend, true);
            }
        }
        boolean good = true;
        for (int pair = 0; pair < 25; pair++) {
            int a = pair / 5;
            int b = pair % 5;
            boolean both = (set >> a & 1) != 0 && (set >> b & 1) != 0;
            good &= !both || x.safe(a, b) != 0;
            good &= !before.contains("must " + a + " " + b + ";") || x.best(a, b) != -1;
        }
        return good;
    }

    private static boolean isAhead(int number, int best, int[] costs) {
        if (best < 0 || sum(costs, number) != sum(costs, best)) {
            return best < 0 || sum(costs, number) < sum(costs, best);
        }
        return Integer.bitCount(number) < Integer.bitCount(best);
    }

    private static int sum(int[] costs, int number) {
        int all = 0;
        for (int mend = 0; mend < 7; mend++) {
            all += (number >> mend & 1) * costs[mend];
        }
        return all;
    }

    private RoomTest() {
    }
}
