import java.util.Random;

/**
 * No call throws or fails to end, whatever its arguments and whatever came before; the same calls answer the same; and
 * what has been asked before doesn't matter.
 */
public final class AnyCallTest {
    private static final int MOST_CALLS = 512;
    private static final int TEXT_CALLS = 25;
    /** Cases of call() that change what is told or REMEMBERED. */
    private static final int[] CHANGES = {5, 6, 7, 8, 10, 18};
    /** Cases of call() that only ask. */
    private static final int[] QUESTIONS = {2, 3, 3, 3, 9, 11, 12, 13, 14, 14, 15, 16, 17, 19};
    private static final int[] EDGES = {Integer.MIN_VALUE, -33, -32, -2, -1, 0, 1, 2, 3, 4, 5, 6, 7, 8, 15, 16, 31, 32,
        100, 101, 600, Integer.MAX_VALUE};
    private static final String[] WORDS = {"friend", "has", "broken", "retries", "mend", "forbid", "cost", "must", "bind",
        "mark", "pin", ";", ";", "0", "1", "2", "3", "4", "101", "0001", "#"};

    public static void main(String[] args) {
        Due due = new Due();
        for (int seed = 0; seed < 600; seed++) {
            due.is("seed " + seed, calls(seed), calls(seed));
        }
        for (int seed = 0; seed < 300; seed++) {
            askedBefore(due, new Random(seed));
        }
        due.end();
    }

    /** Of one object much is asked, of others made alike one thing each. */
    private static void askedBefore(Due due, Random random) {
        int seed = random.nextInt();
        Made made = Made.fresh().and(x -> anyState(x, new Random(seed)));
        TalkDown used = made.object();
        for (int asked = 0; asked < 200; asked++) {
            int question = random.nextInt();
            int which = QUESTIONS[random.nextInt(QUESTIONS.length)];
            int want = call(made.object(), new Random(question), which);
            due.is("seed " + seed + " call " + which, call(used, new Random(question), which), want);
        }
    }

    private static void anyState(TalkDown x, Random random) {
        for (int friend = 0; friend < 5; friend++) {
            x.ways(friend, random.nextInt(16));
        }
        for (int i = 0; i < 40; i++) {
            call(x, random, CHANGES[random.nextInt(CHANGES.length)]);
        }
    }

    private static long calls(int seed) {
        Random random = new Random(seed);
        TalkDown x = new TalkDown();
        long all = 0;
        int used = 0;
        while (used + TEXT_CALLS < MOST_CALLS) {
            int which = random.nextInt(22);
            used += which < 20 ? 1 : anyText(x, random);
            all = 31 * all + (which < 20 ? call(x, random, which) : x.fault());
        }
        return all;
    }

    private static int number(Random random) {
        return random.nextInt(4) == 0 ? EDGES[random.nextInt(EDGES.length)] : random.nextInt(5);
    }

    private static int set(Random random) {
        return random.nextInt(4) == 0 ? EDGES[random.nextInt(EDGES.length)] : random.nextInt(32);
    }

    private static int call(TalkDown x, Random random, int which) {
        int a = number(random);
        int b = number(random);
        int c = number(random);
        boolean is = random.nextBoolean();
        switch (which) {
            case 0: return x.feed(random.nextInt(), random.nextInt(), a, b, c);
            case 1: return x.tells(number(random) * 20);
            case 2: return x.fault();
            case 3: return x.text(set(random));
            case 4: return x.ways(a, set(random)) ? 1 : 0;
            case 5: return x.broken(set(random)) ? 1 : 0;
            case 6: return x.retries(a) ? 1 : 0;
            case 7: return x.mend(set(random), is) ? 1 : 0;
            case 8: return x.cost(a, set(random)) ? 1 : 0;
            case 9: return x.best(a, b);
            case 10: return x.meet(a, b);
            case 11: return x.remembers(a, b);
            case 12: return x.fall(a, b, c);
            case 13: return x.apart(a, b);
            case 14: return x.row(a, b, c, number(random), number(random));
            case 15: return x.safe(a, b);
            case 16: return x.lowest(a, b);
            case 17: return x.room(set(random), a);
            case 18: return x.must(a, b, is) ? 1 : 0;
            default: return x.cheapest(set(random), a);
        }
    }

    /** Tells a text of any words; answers how many calls it took, with that of its FAULT less than TEXT_CALLS. */
    private static int anyText(TalkDown x, Random random) {
        StringBuilder text = new StringBuilder();
        for (int i = random.nextInt(40); i > 0; i--) {
            text.append(WORDS[random.nextInt(WORDS.length)]).append(random.nextBoolean() ? " " : "");
        }
        Tapes.tell(x, text.toString());
        return (text.length() + 19) / 20 + 2;
    }

    private AnyCallTest() {
    }
}
