import java.util.Random;

/** No call throws or fails to end, whatever its arguments and whatever came before; the same calls answer the same. */
public final class AnyCallTest {
    private static final int[] EDGES = {Integer.MIN_VALUE, -33, -32, -2, -1, 0, 1, 2, 3, 4, 5, 6, 7, 8, 15, 16, 31, 32,
        100, 101, 600, Integer.MAX_VALUE};
    private static final String[] WORDS = {"friend", "has", "broken", "retries", "mend", "forbid", "cost", "must", "bind",
        "mark", "pin", ";", ";", "0", "1", "2", "3", "4", "101", "0001", "#"};

    public static void main(String[] args) {
        Due due = new Due();
        for (int seed = 0; seed < 600; seed++) {
            due.is("seed " + seed, calls(seed), calls(seed));
        }
        due.end();
    }

    private static long calls(int seed) {
        Random random = new Random(seed);
        TalkDown x = new TalkDown();
        long all = 0;
        for (int i = 0; i < 512; i++) {
            all = 31 * all + call(x, random, random.nextInt(22));
        }
        return all;
    }

    private static int number(Random random) {
        return random.nextInt(4) == 0 ? EDGES[random.nextInt(EDGES.length)] : random.nextInt(5);
    }

    private static int set(Random random) {
        return random.nextInt(4) == 0 ? EDGES[random.nextInt(EDGES.length)] : random.nextInt(32);
    }

    private static int call(TalkDown x, Random random, int which) {
        int a = number(random);
        int b = number(random);
        int c = number(random);
        boolean is = random.nextBoolean();
        switch (which) {
            case 0: return x.feed(random.nextInt(), random.nextInt(), a, b, c);
            case 1: return x.tells(number(random) * 20);
            case 2: return x.fault();
            case 3: return x.text(set(random));
            case 4: return x.ways(a, set(random)) ? 1 : 0;
            case 5: return x.broken(set(random)) ? 1 : 0;
            case 6: return x.retries(a) ? 1 : 0;
            case 7: return x.mend(set(random), is) ? 1 : 0;
            case 8: return x.cost(a, set(random)) ? 1 : 0;
            case 9: return x.best(a, b);
            case 10: return x.meet(a, b);
            case 11: return x.remembers(a, b);
            case 12: return x.fall(a, b, c);
            case 13: return x.apart(a, b);
            case 14: return x.row(a, b, c, number(random), number(random));
            case 15: return x.safe(a, b);
            case 16: return x.lowest(a, b);
            case 17: return x.room(set(random), a);
            case 18: return x.must(a, b, is) ? 1 : 0;
            case 19: return x.cheapest(set(random), a);
            default: return anyText(x, random);
        }
    }

    private static int anyText(TalkDown x, Random random) {
        StringBuilder text = new StringBuilder();
        for (int i = random.nextInt(40); i > 0; i--) {
            text.append(WORDS[random.nextInt(WORDS.length)]).append(random.nextBoolean() ? " " : "");
        }
        return Tapes.tell(x, text.toString());
    }

    private AnyCallTest() {
    }
}
