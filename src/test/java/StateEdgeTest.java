/**
 * Promises 6 to 13 and 20 at their edges: a test of its own for each sentence that names one; the sentence stands
 * above its test.
 */
public final class StateEdgeTest {
    private static final Due DUE = new Due();
    private static final int[] NO_FRIENDS = Edges.outside(0, 4);

    public static void main(String[] args) {
        waysTaken();
        waysRefused();
        brokenWays();
        retries();
        mendsSwitched();
        mendsRefused();
        costsTaken();
        costsRefused();
        bestEdges();
        meetWithoutWay();
        meetWithPin();
        meetBetterOrNot();
        remembersNothing();
        mustSwitched();
        mustRefused();
        noSuchUnlikeFriends();
        DUE.end();
    }

    // "WAYS of a FRIEND (0 to 15): true"
    private static void waysTaken() {
        for (int friend = 0; friend < 5; friend++) {
            int which = friend;
            DUE.taken("ways of none", Made.fresh(), x -> x.ways(which, 0), "");
            DUE.taken("ways(f, 1)", Made.fresh(), x -> x.ways(which, 1), "friend " + friend + " has 0;");
            DUE.taken("ways(f, 15)", Made.fresh(), x -> x.ways(which, 15), "friend " + friend + " has 0 1 2 3;");
            Made full = Made.fresh().and(x -> x.ways(which, 15));
            DUE.taken("the same again", full, x -> x.ways(which, 15), "friend " + friend + " has 0 1 2 3;");
            DUE.taken("less again", full, x -> x.ways(which, 8), "friend " + friend + " has 3;");
            DUE.taken("none again", full, x -> x.ways(which, 0), "");
        }
    }

    // "false: not as told."
    private static void waysRefused() {
        for (int set : Edges.outside(0, 15)) {
            for (int friend = 0; friend < 5; friend++) {
                int which = friend;
                DUE.refused("ways(" + friend + ", " + set + ")", Edges.rich(), x -> x.ways(which, set));
            }
            DUE.refused("ways(5, " + set + ")", Edges.rich(), x -> x.ways(5, set));
        }
        for (int friend : NO_FRIENDS) {
            DUE.refused("ways(" + friend + ", 0)", Edges.rich(), x -> x.ways(friend, 0));
            DUE.refused("ways(" + friend + ", 15)", Edges.rich(), x -> x.ways(friend, 15));
        }
    }

    // "BROKEN WAYS (0 to 15): true; false: another number."
    private static void brokenWays() {
        DUE.taken("broken(0)", Made.told("broken 2;"), x -> x.broken(0), "");
        DUE.taken("broken(0) of none", Made.fresh(), x -> x.broken(0), "");
        DUE.taken("broken(15)", Made.told("broken 2;"), x -> x.broken(15), "broken 0 1 2 3;");
        DUE.taken("broken(15) again", Made.told("broken 0 1 2 3;"), x -> x.broken(15), "broken 0 1 2 3;");
        DUE.taken("others than before", Made.told("broken 0 1;"), x -> x.broken(12), "broken 2 3;");
        for (int set : Edges.outside(0, 15)) {
            DUE.refused("broken(" + set + ")", Edges.rich(), x -> x.broken(set));
        }
    }

    // "RETRIES: true; false: another number." with "RETRIES: 0 to 3"
    private static void retries() {
        DUE.taken("retries(0)", Made.told("retries 2;"), x -> x.retries(0), "");
        DUE.taken("retries(1)", Made.told("retries 2;"), x -> x.retries(1), "retries 1;");
        DUE.taken("retries(3)", Made.fresh(), x -> x.retries(3), "retries 3;");
        DUE.taken("retries(3) again", Made.told("retries 3;"), x -> x.retries(3), "retries 3;");
        for (int many : Edges.outside(0, 3)) {
            DUE.refused("retries(" + many + ")", Edges.rich(), x -> x.retries(many));
        }
    }

    // "A MEND (0 BIND, 1 MARK, 2 PIN, 3 + w WAY w FORBIDDEN) is on or off: true"
    private static void mendsSwitched() {
        String[] written = {"mend bind;", "mend mark;", "mend pin;", "forbid 0;", "forbid 1;", "forbid 2;", "forbid 3;"};
        String all = String.join("", written);
        for (int mend = 0; mend < 7; mend++) {
            int which = mend;
            DUE.taken("mend on", Made.fresh(), x -> x.mend(which, true), written[mend]);
            DUE.taken("mend off", Made.told(written[mend]), x -> x.mend(which, false), "");
            DUE.taken("one of all off", Made.told(all), x -> x.mend(which, false), all.replace(written[mend], ""));
        }
    }

    // "false, doing nothing: none such, it's so."
    private static void mendsRefused() {
        for (int mend : Edges.outside(0, 6)) {
            DUE.refused("mend(" + mend + ", true)", Edges.rich(), x -> x.mend(mend, true));
            DUE.refused("mend(" + mend + ", false)", Edges.rich(), x -> x.mend(mend, false));
        }
        boolean[] on = {false, true, true, true, false, false, false};
        for (int mend = 0; mend < 7; mend++) {
            int which = mend;
            DUE.refused("mend " + mend + " is so", Edges.rich(), x -> x.mend(which, on[which]));
            Made other = Edges.rich().and(x -> x.mend(which, !on[which]));
            DUE.refused("mend " + mend + " is so then", other, x -> x.mend(which, !on[which]));
        }
    }

    // "What a MEND costs (0 to 100): true"
    private static void costsTaken() {
        String[] names = {"bind", "mark", "pin", "forbid 0", "forbid 1", "forbid 2", "forbid 3"};
        for (int mend = 0; mend < 7; mend++) {
            int which = mend;
            String cost = "cost " + names[mend];
            DUE.taken("cost of 0", Made.fresh(), x -> x.cost(which, 0), cost + " 0;");
            DUE.taken("cost of 100", Made.fresh(), x -> x.cost(which, 100), cost + " 100;");
            DUE.taken("cost of 100 again", Made.told(cost + " 100;"), x -> x.cost(which, 100), cost + " 100;");
            DUE.taken("cost of 10", Made.fresh(), x -> x.cost(which, 10), "");
            DUE.taken("cost of 10 again", Made.told(cost + " 11;"), x -> x.cost(which, 10), "");
        }
    }

    // "false: not as told."
    private static void costsRefused() {
        for (int coins : Edges.outside(0, 100)) {
            for (int mend = 0; mend < 7; mend++) {
                int which = mend;
                DUE.refused("cost(" + mend + ", " + coins + ")", Edges.rich(), x -> x.cost(which, coins));
            }
        }
        for (int mend : Edges.outside(0, 6)) {
            for (int coins : new int[] {-1, 0, 10, 100, 101}) {
                DUE.refused("cost(" + mend + ", " + coins + ")", Edges.rich(), x -> x.cost(mend, coins));
            }
        }
    }

    // "BEST of two. NONE: none" with "a set .. none at first" and "FORBIDDEN WAYS are no one's"
    private static void bestEdges() {
        for (int sets = 0; sets < 256; sets++) {
            int one = sets & 15;
            int other = sets >> 4;
            Made made = Made.fresh().and(x -> x.ways(1, one)).and(x -> x.ways(3, other));
            for (int forbidden = 0; forbidden < 16; forbidden++) {
                TalkDown x = made.object();
                for (int way = 0; way < 4; way++) {
                    x.mend(3 + way, (forbidden >> way & 1) != 0);
                }
                int both = one & other & ~forbidden;
                int want = both == 0 ? -1 : 31 - Integer.numberOfLeadingZeros(both);
                DUE.is("best of " + one + " and " + other + " without " + forbidden, x.best(1, 3), want);
                DUE.is("best the other way round", x.best(3, 1), want);
                DUE.is("best with one without WAYS", x.best(1, 2), -1);
            }
        }
    }

    // "NONE, doing nothing: none"
    private static void meetWithoutWay() {
        DUE.idle("both without WAYS", Made.fresh(), x -> x.meet(0, 1), -1);
        DUE.idle("one without WAYS", Edges.rich(), x -> x.meet(0, 3), -1);
        DUE.idle("the other without WAYS", Edges.rich(), x -> x.meet(3, 0), -1);
        DUE.idle("no WAY of both", Edges.rich(), x -> x.meet(0, 4), -1);
        Made alike = Edges.rich().and(x -> x.ways(3, 1));
        DUE.idle("the only WAY of both FORBIDDEN", alike, x -> x.meet(2, 3), -1);
        DUE.is("FORBIDDEN no more", alike.and(x -> x.mend(3, false)).object().meet(2, 3), 0);
        Made met = Made.told("friend 0 has 0 3;friend 1 has 0 3;").and(x -> x.meet(0, 1)).and(x -> x.ways(1, 0));
        DUE.idle("no WAY any more", met, x -> x.meet(0, 1), -1);
        DUE.is("what was REMEMBERED stays", met.and(x -> x.meet(0, 1)).object().remembers(0, 1), 3);
    }

    // "(or with PIN it's below what a REMEMBERS)" with "isn't below what is REMEMBERED" and "nothing is below it"
    private static void meetWithPin() {
        for (int remembered = -1; remembered < 4; remembered++) {
            for (int way = 0; way < 4; way++) {
                int old = remembered < 0 ? 0 : 1 << remembered;
                int now = 1 << way;
                Made met = Made.fresh().and(x -> x.ways(0, old)).and(x -> x.ways(1, old)).and(x -> x.meet(0, 1))
                    .and(x -> x.ways(0, now)).and(x -> x.ways(1, now));
                Made pinned = met.and(x -> x.mend(2, true));
                String name = "meet on " + way + " where " + remembered + " is REMEMBERED";
                DUE.is(name, met.object().meet(0, 1), way);
                if (way < remembered) {
                    DUE.idle(name + " with PIN", pinned, x -> x.meet(0, 1), -1);
                    DUE.idle(name + " with PIN, the other way round", pinned, x -> x.meet(1, 0), -1);
                } else {
                    DUE.is(name + " with PIN", pinned.object().meet(0, 1), way);
                    DUE.is(name + " with PIN, the other way round", pinned.object().meet(1, 0), way);
                    DUE.is(name + " then", pinned.and(x -> x.meet(0, 1)).object().remembers(1, 0), way);
                }
            }
        }
    }

    // "the WAY, which a REMEMBERS of b and b of a, if it's better than what each does"
    private static void meetBetterOrNot() {
        for (int first = 0; first < 4; first++) {
            for (int second = 0; second < 4; second++) {
                TalkDown x = new TalkDown();
                meetOn(x, first);
                DUE.is("a REMEMBERS the first", x.remembers(2, 4), first);
                DUE.is("b REMEMBERS the first", x.remembers(4, 2), first);
                meetOn(x, second);
                DUE.is("a REMEMBERS the better", x.remembers(2, 4), Math.max(first, second));
                DUE.is("b REMEMBERS the better", x.remembers(4, 2), Math.max(first, second));
            }
        }
    }

    private static void meetOn(TalkDown x, int way) {
        x.ways(2, 1 << way);
        x.ways(4, 1 << way);
        DUE.is("meet on " + way, x.meet(4, 2), way);
    }

    // "What a REMEMBERS of b. NONE: nothing"
    private static void remembersNothing() {
        Made met = Edges.rich();
        for (int pair = 0; pair < 25; pair++) {
            int a = pair / 5;
            int b = pair % 5;
            int want = a + b == 1 ? 2 : a * b == 4 && a != b ? 3 : -1;
            DUE.idle("remembers(" + a + ", " + b + ")", met, x -> x.remembers(a, b), want);
            DUE.is("remembers of a new one", new TalkDown().remembers(a, b), -1);
            DUE.is("remembers behind an empty text", met.and(x -> x.tells(0)).object().remembers(a, b), -1);
            DUE.is("remembers behind a FAULT", met.and(x -> x.tells(1)).object().remembers(a, b), want);
            DUE.is("remembers behind -2", met.and(x -> x.tells(-1)).object().remembers(a, b), want);
        }
        DUE.is("WAY 0 is something", Made.told("friend 0 has 0;friend 1 has 0;").and(x -> x.meet(0, 1)).object().remembers(0, 1), 0);
        Made lost = met.and(x -> x.ways(0, 0)).and(x -> x.ways(1, 0)).and(x -> x.mend(5, true)).and(x -> x.mend(2, false));
        DUE.is("a WAY that no one has any more", lost.object().remembers(0, 1), 2);
    }

    // "A pair MUST talk or needn't: true"
    private static void mustSwitched() {
        for (int pair = 0; pair < 25; pair++) {
            int a = pair / 5;
            int b = pair % 5;
            if (a != b) {
                String written = "must " + Math.min(a, b) + " " + Math.max(a, b) + ";";
                DUE.taken("must", Made.fresh(), x -> x.must(a, b, true), written);
                DUE.taken("needn't", Made.told(written), x -> x.must(a, b, false), "");
            }
        }
    }

    // "false, doing nothing: no such unlike FRIENDS, it's so (either way round is the same)."
    private static void mustRefused() {
        for (int pair = 0; pair < 25; pair++) {
            int a = pair / 5;
            int b = pair % 5;
            boolean is = a + b == 1 || (a * b == 4 && a != b);
            String name = "must(" + a + ", " + b + ")";
            DUE.refused(name + " is so", Edges.rich(), x -> x.must(a, b, is));
            if (a == b) {
                DUE.refused(name + " of one", Edges.rich(), x -> x.must(a, b, true));
            } else {
                Made other = Edges.rich().and(x -> x.must(a, b, !is));
                DUE.refused(name + " is so then", other, x -> x.must(a, b, !is));
                DUE.refused(name + " is so then, the other way round", other, x -> x.must(b, a, !is));
            }
        }
    }

    // "no such unlike FRIENDS", of promises 11 to 18 and 20
    private static void noSuchUnlikeFriends() {
        for (int friend = 0; friend < 5; friend++) {
            noSuchPair(friend, friend);
            for (int wrong : NO_FRIENDS) {
                noSuchPair(friend, wrong);
                noSuchPair(wrong, friend);
            }
        }
        for (int wrong : NO_FRIENDS) {
            noSuchPair(wrong, wrong);
            noSuchPair(wrong, -1);
            noSuchPair(5, wrong);
        }
    }

    private static void noSuchPair(int a, int b) {
        String pair = "(" + a + ", " + b + ")";
        TalkDown full = Made.told("friend 0 has 0 1 2 3;friend 1 has 0 1 2 3;friend 2 has 0 1 2 3;friend 3 has 0 1 2 3;"
            + "friend 4 has 0 1 2 3;retries 3;").object();
        for (int way = -1; way < 4; way++) {
            DUE.is("fall" + pair, full.fall(a, b, way), -1);
            DUE.is("row" + pair, full.row(a, b, way, 0, 0), -1);
            DUE.is("row's detail" + pair, full.row(a, b, way, 0, 1), -1);
        }
        DUE.is("apart" + pair, full.apart(a, b), -1);
        DUE.is("safe" + pair, full.safe(a, b), -1);
        DUE.is("lowest" + pair, full.lowest(a, b), -1);
        DUE.is("best" + pair, full.best(a, b), -1);
        DUE.is("meet" + pair, full.meet(a, b), -1);
        DUE.is("remembers" + pair, full.remembers(a, b), -1);
        Made rich = Edges.rich();
        DUE.refused("must" + pair, rich, x -> x.must(a, b, true));
        DUE.refused("needn't" + pair, rich, x -> x.must(a, b, false));
        DUE.idle("meet" + pair, rich, x -> x.meet(a, b), -1);
        DUE.idle("remembers" + pair, rich, x -> x.remembers(a, b), -1);
        DUE.idle("best" + pair, rich, x -> x.best(a, b), -1);
    }

    private StateEdgeTest() {
    }
}
