import java.util.List;

/** Promises 14 to 18: FALL, APART, their rows, SAFE and the lowest FALL. */
public final class StrangerTest {
    private static final Due DUE = new Due();

    public static void main(String[] args) {
        offersDropped();
        marks();
        binds();
        pins();
        apartRows();
        forbidden();
        wrongArguments();
        everyState();
        DUE.end();
    }

    private static void offersDropped() {
        TalkDown x = Tapes.told("friend 0 has 1 2 3;friend 1 has 1 2 3;mend bind;retries 3;");
        DUE.is("fall to 3", x.fall(0, 1, 3), 0);
        DUE.is("fall to 2", x.fall(0, 1, 2), 1);
        DUE.is("fall to 1", x.fall(0, 1, 1), 2);
        DUE.is("fall to 0", x.fall(0, 1, 0), -1);
        DUE.is("lowest", x.lowest(0, 1), 1);
        DUE.is("apart", x.apart(0, 1), -1);
        DUE.is("safe", x.safe(0, 1), 0);
        row(x, 1, "00 00");
        x.retries(1);
        DUE.is("fall to 1 with one retry", x.fall(0, 1, 1), -1);
        DUE.is("lowest with one retry", x.lowest(0, 1), 2);
        x.retries(0);
        DUE.is("safe without retries", x.safe(0, 1), 1);
        row(x, 3, "");
    }

    private static void marks() {
        TalkDown x = Tapes.told("friend 0 has 1 2 3;friend 1 has 1 2;mend bind;mend mark;retries 3;");
        DUE.is("TRY 1 is marked, but b has no better WAY", x.fall(0, 1, 2), 0);
        DUE.is("TRY 2 is marked and b has a better WAY", x.fall(0, 1, 1), -1);
        DUE.is("safe", x.safe(0, 1), 1);
        x.mend(1, false);
        DUE.is("unmarked TRY 2", x.fall(0, 1, 1), 2);
        x.mend(1, true);
        x.mend(0, false);
        DUE.is("a mark doesn't help against a change", x.fall(0, 1, 1), 1);
        row(x, 1, "12");
        // b has 3, so b stops at every marked offer of a, who has none better than 2
        x = Tapes.told("friend 0 has 1 2;friend 1 has 1 3;mend bind;mend mark;retries 3;");
        DUE.is("TRY 0 is unmarked", x.fall(0, 1, 1), 0);
        DUE.is("safe", x.safe(0, 1), 1);
    }

    private static void binds() {
        TalkDown x = Tapes.told("friend 0 has 0 1 2 3;friend 1 has 0 1 2 3;mend bind;broken 0 2;");
        DUE.is("forged fall to 2", x.fall(0, 1, 2), 2);
        row(x, 2, "14 30");
        DUE.is("1 is not broken", x.fall(0, 1, 1), -1);
        DUE.is("forged fall to 0", x.fall(0, 1, 0), 2);
        DUE.is("lowest", x.lowest(0, 1), 0);
        DUE.is("apart needs both broken", x.apart(0, 1), 3);
        row(x, -1, "11 22 30");
        x.broken(4);
        DUE.is("apart with one broken", x.apart(0, 1), -1);
        DUE.is("safe", x.safe(0, 1), 0);
        x.broken(9);
        DUE.is("apart with b's own pick broken", x.apart(0, 1), 2);
        row(x, -1, "20 30");
        x.mend(0, false);
        x.broken(0);
        DUE.is("apart without BIND", x.apart(0, 1), 1);
    }

    private static void pins() {
        TalkDown x = Tapes.told("friend 0 has 0 1 2 3;friend 1 has 0 1 2;");
        DUE.is("meet", x.meet(0, 1), 2);
        DUE.is("fall before", x.fall(0, 1, 1), 1);
        x.mend(2, true);
        DUE.is("fall with PIN", x.fall(0, 1, 1), -1);
        DUE.is("fall to what is REMEMBERED", x.fall(0, 1, 2), 0);
        DUE.is("apart with PIN", x.apart(0, 1), 1);
        row(x, -1, "23");
        DUE.is("apart of 1, who takes 2 alone", x.apart(1, 0), 2);
        row(x, -1, 1, 0, "11 22");
        x.ways(0, 3);
        DUE.is("BEST below what is REMEMBERED", x.fall(0, 1, 1), -1);
        DUE.is("none to fall to, none apart", x.safe(0, 1), 1);
    }

    private static void apartRows() {
        TalkDown x = Tapes.told("friend 0 has 3;friend 1 has 0 2 3;");
        DUE.is("apart by two changes", x.apart(0, 1), 2);
        row(x, -1, "11 23");
        x = Tapes.told("friend 0 has 2;friend 1 has 1;");
        DUE.is("no BEST", x.best(0, 1), -1);
        DUE.is("apart without a BEST", x.apart(0, 1), 2);
        row(x, -1, "12 22");
        DUE.is("not SAFE without a BEST", x.safe(0, 1), 0);
        DUE.is("lowest without a BEST", x.lowest(0, 1), -1);
        x.mend(0, true);
        DUE.is("SAFE without a BEST", x.safe(0, 1), 1);
        x = Tapes.told("friend 1 has 0 1 2 3;");
        DUE.is("a without WAYS takes none", x.apart(0, 1), -1);
        DUE.is("b without WAYS picks none", x.apart(1, 0), -1);
        DUE.is("safe without WAYS", x.safe(1, 0), 1);
    }

    private static void forbidden() {
        TalkDown x = Tapes.told("friend 0 has 1 2 3;friend 1 has 1 2 3;forbid 3;mend bind;retries 1;");
        DUE.is("fall to a FORBIDDEN WAY", x.fall(0, 1, 3), -1);
        DUE.is("BEST of the rest", x.fall(0, 1, 2), 0);
        DUE.is("the best of the rest is left out in TRY 1", x.fall(0, 1, 1), 1);
        row(x, 1, "00");
    }

    private static void wrongArguments() {
        TalkDown x = Tapes.told("friend 0 has 1 2 3;friend 1 has 1 2 3;retries 3;");
        for (int wrong : new int[] {4, 5, 32, 34, -2, Integer.MIN_VALUE, Integer.MAX_VALUE}) {
            DUE.is("fall to no WAY", x.fall(0, 1, wrong), -1);
            DUE.is("row of no WAY", x.row(0, 1, wrong, 0, 0), -1);
            DUE.is("no such act", x.row(0, 1, 1, wrong, 0), -1);
            DUE.is("no such what", x.row(0, 1, 1, 0, wrong), -1);
        }
        DUE.is("fall(0, 1, -1)", x.fall(0, 1, -1), -1);
        DUE.is("act -1", x.row(0, 1, 1, -1, 0), -1);
        DUE.is("act 1 of 1", x.row(0, 1, 1, 1, 0), -1);
        DUE.is("what -1", x.row(0, 1, 1, 0, -1), -1);
        DUE.is("what 2", x.row(0, 1, 1, 0, 2), -1);
        DUE.is("what 1", x.row(0, 1, 1, 0, 1), 2);
    }

    private static void row(TalkDown x, int way, String want) {
        row(x, way, 0, 1, want);
    }

    /** Each act as its kind and its detail. */
    private static void row(TalkDown x, int way, int a, int b, String want) {
        StringBuilder got = new StringBuilder();
        for (int k = 0; k < 8 && x.row(a, b, way, k, 0) != -1; k++) {
            got.append(k == 0 ? "" : " ").append(x.row(a, b, way, k, 0)).append(x.row(a, b, way, k, 1));
        }
        DUE.is("row to " + way, got.toString(), want);
    }

    private static void everyState() {
        for (int mends = 0; mends < 8; mends++) {
            for (int remembered = -1; remembered < 4; remembered++) {
                // what is REMEMBERED matters with PIN alone
                if ((mends & 4) != 0 || remembered < 0) {
                    everyWays(mends, remembered);
                }
            }
        }
    }

    private static void everyWays(int mends, int remembered) {
        for (int ways = 0; ways < 256; ways++) {
            for (int broken = 0; broken < 16; broken++) {
                TalkDown x = new TalkDown();
                remember(x, remembered);
                x.ways(0, ways & 15);
                x.ways(1, ways >> 4);
                x.broken(broken);
                for (int mend = 0; mend < 3; mend++) {
                    x.mend(mend, (mends >> mend & 1) != 0);
                }
                for (int retries = 0; retries < 4; retries++) {
                    x.retries(retries);
                    String state = "mends " + mends + " remembered " + remembered + " " + Tapes.written(x) + ": ";
                    asTheOracle(x, state, new Oracle(ways & 15, ways >> 4, broken, retries, mends, remembered));
                }
            }
        }
    }

    private static void remember(TalkDown x, int way) {
        if (way >= 0) {
            x.ways(0, 1 << way);
            x.ways(1, 1 << way);
            x.meet(1, 0);
        }
    }

    private static void asTheOracle(TalkDown x, String state, Oracle oracle) {
        for (int goal = -1; goal < 4; goal++) {
            DUE.is(state + "acts to " + goal, goal < 0 ? x.apart(0, 1) : x.fall(0, 1, goal), oracle.acts(goal));
            Oracle.Row row = oracle.row(goal);
            List<int[]> acts = row == null ? List.of() : row.asActs();
            for (int k = 0; k < acts.size(); k++) {
                DUE.is(state + "kind of act " + k + " to " + goal, x.row(0, 1, goal, k, 0), acts.get(k)[0]);
                DUE.is(state + "detail of act " + k + " to " + goal, x.row(0, 1, goal, k, 1), acts.get(k)[1]);
            }
            DUE.is(state + "no act more to " + goal, x.row(0, 1, goal, acts.size(), 0), -1);
        }
        DUE.is(state + "best", x.best(0, 1), oracle.best());
        DUE.is(state + "lowest", x.lowest(0, 1), oracle.lowest());
        DUE.is(state + "safe", x.safe(0, 1), oracle.safe() ? 1 : 0);
    }

    private StrangerTest() {
    }
}
