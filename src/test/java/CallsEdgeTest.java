import java.util.List;
import java.util.function.ToIntFunction;

/** "An object is used for at most 512 calls": the 512th is answered as any other, and no later one throws. */
public final class CallsEdgeTest {
    private static final Due DUE = new Due();
    private static final int MOST_CALLS = 512;
    private static final String TEXT = "friend 0 has 1 2 3;friend 1 has 2 3;broken 2;retries 1;mend bind;cost pin 9;must 0 1;";

    /** A call and the answer that is due behind TEXT and a meeting of 0 and 1. */
    private record Asked(String name, ToIntFunction<TalkDown> call, int want) {
    }

    private static final List<Asked> ALL = List.of(
        new Asked("feed", x -> x.feed(0, 0, 0, 0, 0), 20),
        new Asked("tells", x -> x.tells(0), 0),
        new Asked("tells of too many", x -> x.tells(1), -2),
        new Asked("fault", x -> x.fault(), -1),
        new Asked("text", x -> x.text(-1), TEXT.length()),
        new Asked("text's last", x -> x.text(TEXT.length() - 1), ';'),
        new Asked("ways", x -> x.ways(4, 15) ? 1 : 0, 1),
        new Asked("broken", x -> x.broken(0) ? 1 : 0, 1),
        new Asked("retries", x -> x.retries(3) ? 1 : 0, 1),
        new Asked("mend", x -> x.mend(0, false) ? 1 : 0, 1),
        new Asked("cost", x -> x.cost(6, 100) ? 1 : 0, 1),
        new Asked("best", x -> x.best(0, 1), 3),
        new Asked("meet", x -> x.meet(0, 1), 3),
        new Asked("remembers", x -> x.remembers(1, 0), 3),
        new Asked("fall", x -> x.fall(0, 1, 2), 1),
        new Asked("apart", x -> x.apart(0, 1), -1),
        new Asked("row", x -> x.row(0, 1, 2, 0, 0), 0),
        new Asked("safe", x -> x.safe(0, 1), 0),
        new Asked("lowest", x -> x.lowest(1, 0), 2),
        new Asked("room", x -> x.room(31, -1), 2),
        new Asked("must", x -> x.must(1, 0, false) ? 1 : 0, 1),
        new Asked("cheapest", x -> x.cheapest(31, 1), 4));

    public static void main(String[] args) {
        lastCalls();
        sameCallOnly();
        fullTapes();
        laterCalls();
        DUE.end();
    }

    /** Used for all but one of its calls, the last of which tell TEXT and make 0 and 1 meet. */
    private static TalkDown almostUsedUp() {
        TalkDown x = new TalkDown();
        int last = (TEXT.length() + 19) / 20 + 3;
        for (int i = 0; i < MOST_CALLS - 1 - last; i++) {
            ALL.get(i % ALL.size()).call().applyAsInt(x);
        }
        x.tells(0);
        Tapes.tell(x, TEXT);
        x.meet(1, 0);
        return x;
    }

    private static void lastCalls() {
        for (Asked asked : ALL) {
            DUE.is("the 512th call: " + asked.name(), asked.call().applyAsInt(almostUsedUp()), asked.want());
        }
    }

    private static void sameCallOnly() {
        TalkDown x = Tapes.told(TEXT);
        x.meet(0, 1);
        int used = (TEXT.length() + 19) / 20 + 2;
        for (; used < MOST_CALLS; used++) {
            DUE.is("cheapest, call " + used, x.cheapest(31, 1), 4);
        }
    }

    /** As many full tapes as there are calls for. */
    private static void fullTapes() {
        TalkDown x = new TalkDown();
        String text = "broken 3;" + " ".repeat(590) + "#";
        for (int used = 0; used + 32 <= MOST_CALLS; used += 32) {
            DUE.is("a full tape", Tapes.feed(x, text), 600);
            DUE.is("no byte more", x.feed(0, 0, 0, 0, 0), -1);
            DUE.is("told by all but its last byte", x.tells(599), 1);
        }
    }

    /** What they answer is free. */
    private static void laterCalls() {
        TalkDown x = almostUsedUp();
        for (int i = 0; i < 50 * ALL.size(); i++) {
            ALL.get(i % ALL.size()).call().applyAsInt(x);
        }
    }

    private CallsEdgeTest() {
    }
}
