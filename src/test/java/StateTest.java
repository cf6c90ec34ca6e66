/** Promises 6 to 13 and 20: what is told by calls, BEST, meetings, and pairs that MUST talk. */
public final class StateTest {
    private static final Due DUE = new Due();
    private static final int[] WRONG_FRIENDS = {-1, 5, 6, 31, 32, Integer.MIN_VALUE, Integer.MAX_VALUE};

    public static void main(String[] args) {
        ways();
        brokenAndRetries();
        mends();
        costs();
        best();
        meetings();
        meetingsWithPin();
        musts();
        wrongFriends();
        DUE.end();
    }

    private static void ways() {
        TalkDown x = new TalkDown();
        for (int friend = 0; friend < 5; friend++) {
            DUE.is("ways(friend, 15)", x.ways(friend, 15), true);
            DUE.is("the same again", x.ways(friend, 15), true);
        }
        DUE.is("ways(0, 0)", x.ways(0, 0), true);
        DUE.is("ways(1, 16)", x.ways(1, 16), false);
        DUE.is("ways(1, -1)", x.ways(1, -1), false);
        DUE.is("ways(5, 0)", x.ways(5, 0), false);
        DUE.is("ways(-1, 0)", x.ways(-1, 0), false);
        DUE.is("ways(33, 0)", x.ways(33, 0), false);
        DUE.is("written", Tapes.written(x), "friend 1 has 0 1 2 3;friend 2 has 0 1 2 3;friend 3 has 0 1 2 3;friend 4 has 0 1 2 3;");
    }

    private static void brokenAndRetries() {
        TalkDown x = new TalkDown();
        DUE.is("broken(16)", x.broken(16), false);
        DUE.is("broken(-1)", x.broken(-1), false);
        DUE.is("written", Tapes.written(x), "");
        DUE.is("broken(15)", x.broken(15), true);
        DUE.is("broken(15) again", x.broken(15), true);
        DUE.is("broken(16) later", x.broken(16), false);
        DUE.is("retries(4)", x.retries(4), false);
        DUE.is("retries(-1)", x.retries(-1), false);
        DUE.is("retries(3)", x.retries(3), true);
        DUE.is("retries(3) again", x.retries(3), true);
        DUE.is("retries(4) later", x.retries(4), false);
        DUE.is("written", Tapes.written(x), "broken 0 1 2 3;retries 3;");
        DUE.is("broken(0)", x.broken(0), true);
        DUE.is("retries(0)", x.retries(0), true);
        DUE.is("written", Tapes.written(x), "");
    }

    private static void mends() {
        TalkDown x = new TalkDown();
        for (int mend = 0; mend < 7; mend++) {
            DUE.is("off is so", x.mend(mend, false), false);
            DUE.is("on", x.mend(mend, true), true);
            DUE.is("on is so", x.mend(mend, true), false);
        }
        for (int mend : new int[] {-1, 7, 8, 32, 35, -32, Integer.MIN_VALUE, Integer.MAX_VALUE}) {
            DUE.is("no such mend on", x.mend(mend, true), false);
            DUE.is("no such mend off", x.mend(mend, false), false);
        }
        DUE.is("written", Tapes.written(x), "mend bind;mend mark;mend pin;forbid 0;forbid 1;forbid 2;forbid 3;");
        for (int mend = 0; mend < 7; mend++) {
            DUE.is("off", x.mend(mend, false), true);
        }
        DUE.is("written", Tapes.written(x), "");
    }

    private static void costs() {
        TalkDown x = new TalkDown();
        for (int mend = 0; mend < 7; mend++) {
            DUE.is("cost of 10", x.cost(mend, 10), true);
            DUE.is("cost of 0", x.cost(mend, 0), true);
            DUE.is("cost of 100", x.cost(mend, 100), true);
            DUE.is("cost of 101", x.cost(mend, 101), false);
            DUE.is("cost of -1", x.cost(mend, -1), false);
        }
        DUE.is("cost(7, 1)", x.cost(7, 1), false);
        DUE.is("cost(-1, 1)", x.cost(-1, 1), false);
        DUE.is("written", Tapes.written(x), "cost bind 100;cost mark 100;cost pin 100;"
            + "cost forbid 0 100;cost forbid 1 100;cost forbid 2 100;cost forbid 3 100;");
    }

    private static void best() {
        TalkDown x = Tapes.told("friend 0 has 0 1 3;friend 1 has 0 1 2;friend 2 has 2;");
        DUE.is("best(0, 1)", x.best(0, 1), 1);
        DUE.is("best(1, 0)", x.best(1, 0), 1);
        DUE.is("best(0, 2)", x.best(0, 2), -1);
        DUE.is("best(1, 2)", x.best(1, 2), 2);
        DUE.is("best(1, 3)", x.best(1, 3), -1);
        x.mend(4, true);
        DUE.is("best(0, 1) without WAY 1", x.best(0, 1), 0);
        x.mend(3, true);
        DUE.is("best(0, 1) without WAYS 0 and 1", x.best(0, 1), -1);
        x.mend(4, false);
        DUE.is("WAY 1 is back", x.best(0, 1), 1);
        x.mend(2, true);
        DUE.is("PIN doesn't matter for BEST", x.best(0, 1), 1);
    }

    private static void meetings() {
        TalkDown x = Tapes.told("friend 0 has 0 1 3;friend 1 has 0 1 2;friend 2 has 2;");
        DUE.is("meet(0, 2)", x.meet(0, 2), -1);
        DUE.is("remembers(0, 2)", x.remembers(0, 2), -1);
        DUE.is("meet(0, 1)", x.meet(0, 1), 1);
        DUE.is("remembers(0, 1)", x.remembers(0, 1), 1);
        DUE.is("remembers(1, 0)", x.remembers(1, 0), 1);
        x.mend(4, true);
        DUE.is("meet lower", x.meet(1, 0), 0);
        DUE.is("the better is kept by 0", x.remembers(0, 1), 1);
        DUE.is("the better is kept by 1", x.remembers(1, 0), 1);
        x.ways(1, 8);
        DUE.is("remembered without the WAY", x.remembers(0, 1), 1);
        DUE.is("meet better", x.meet(1, 0), 3);
        DUE.is("remembers(0, 1)", x.remembers(0, 1), 3);
        DUE.is("remembers(1, 0)", x.remembers(1, 0), 3);
        DUE.is("remembers(1, 2)", x.remembers(1, 2), -1);
        DUE.is("REMEMBERED is not written", Tapes.written(x), "friend 0 has 0 1 3;friend 1 has 3;friend 2 has 2;forbid 1;");
    }

    private static void meetingsWithPin() {
        TalkDown x = Tapes.told("friend 0 has 0 1 2;friend 1 has 0 1 2;mend pin;");
        DUE.is("meet(0, 1)", x.meet(0, 1), 2);
        x.ways(0, 3);
        DUE.is("meet(0, 1) below", x.meet(0, 1), -1);
        DUE.is("meet(1, 0) below", x.meet(1, 0), -1);
        DUE.is("remembers(0, 1)", x.remembers(0, 1), 2);
        DUE.is("fall(0, 1, 1) with PIN", x.fall(0, 1, 1), -1);
        x.mend(2, false);
        DUE.is("fall(0, 1, 1) without PIN", x.fall(0, 1, 1), 0);
        DUE.is("meet(0, 1) without PIN", x.meet(0, 1), 1);
        x.mend(2, true);
        x.ways(0, 4);
        DUE.is("meet(0, 1) as REMEMBERED", x.meet(0, 1), 2);
    }

    private static void musts() {
        TalkDown x = new TalkDown();
        for (int a = 0; a < 5; a++) {
            for (int b = 0; b < a; b++) {
                DUE.is("needn't is so", x.must(a, b, false), false);
                DUE.is("must", x.must(a, b, true), true);
                DUE.is("must is so", x.must(b, a, true), false);
            }
            DUE.is("must(a, a)", x.must(a, a, true), false);
            DUE.is("needn't(a, a)", x.must(a, a, false), false);
        }
        DUE.is("needn't either way", x.must(1, 3, false), true);
        DUE.is("needn't is so either way", x.must(3, 1, false), false);
        DUE.is("written", Tapes.written(x), "must 0 1;must 0 2;must 0 3;must 0 4;must 1 2;must 1 4;must 2 3;must 2 4;must 3 4;");
    }

    private static void wrongFriends() {
        TalkDown x = Tapes.told("friend 0 has 0 1 2 3;friend 1 has 0 1 2 3;friend 2 has 0 1 2 3;retries 3;");
        for (int friend = 0; friend < 5; friend++) {
            noSuchPair(x, friend, friend);
        }
        for (int wrong : WRONG_FRIENDS) {
            noSuchPair(x, wrong, 0);
            noSuchPair(x, 1, wrong);
            noSuchPair(x, wrong, wrong);
            DUE.is("ways of none", x.ways(wrong, 1), false);
        }
        DUE.is("nothing has changed", Tapes.written(x), "friend 0 has 0 1 2 3;friend 1 has 0 1 2 3;friend 2 has 0 1 2 3;retries 3;");
    }

    private static void noSuchPair(TalkDown x, int a, int b) {
        String pair = "(" + a + ", " + b + ")";
        DUE.is("best" + pair, x.best(a, b), -1);
        DUE.is("meet" + pair, x.meet(a, b), -1);
        DUE.is("remembers" + pair, x.remembers(a, b), -1);
        DUE.is("fall" + pair, x.fall(a, b, 1), -1);
        DUE.is("apart" + pair, x.apart(a, b), -1);
        DUE.is("row" + pair, x.row(a, b, 1, 0, 0), -1);
        DUE.is("row of apart" + pair, x.row(a, b, -1, 0, 0), -1);
        DUE.is("safe" + pair, x.safe(a, b), -1);
        DUE.is("lowest" + pair, x.lowest(a, b), -1);
        DUE.is("must" + pair, x.must(a, b, true), false);
        DUE.is("needn't" + pair, x.must(a, b, false), false);
    }

    private StateTest() {
    }
}
