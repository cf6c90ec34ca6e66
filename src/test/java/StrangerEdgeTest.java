import java.util.Random;

/**
 * Promises 14 to 18 at their edges, with those of "Terms" and "==== 2.": a test of its own for each sentence that
 * names one; the sentence stands above its test.
 */
public final class StrangerEdgeTest {
    private static final Due DUE = new Due();
    private static final int[] NO_ACTS = {Integer.MIN_VALUE, Integer.MIN_VALUE + 1, -33, -32, -2, -1, 4, 5, 31, 32, 33, 65536,
        Integer.MAX_VALUE - 1, Integer.MAX_VALUE};

    public static void main(String[] args) {
        offersAsLongAsOneIsLeft();
        offersMarked();
        changedIntoNoEmptySet();
        withoutPickHearerStops();
        forgedIfBothAreBroken();
        pinnedAtWhatIsRemembered();
        forbiddenIsNoOnes();
        fallToBest();
        fallCannotBe();
        fallNotAsTold();
        apartCannotBe();
        apartEitherWay();
        fewestDrops();
        leastSet();
        unmarkedFirst();
        leastTaken();
        rowPlaces();
        rowNotAsTold();
        safeEdges();
        safeWithoutBest();
        lowestEdges();
        DUE.end();
    }

    private static int count(int set) {
        return Integer.bitCount(set & 15);
    }

    private static int best(int set) {
        return set == 0 ? -1 : 31 - Integer.numberOfLeadingZeros(set);
    }

    /** Each act of the row of 0 talking to 1 as its kind and its detail. */
    private static void row(TalkDown x, int way, String want) {
        StringBuilder got = new StringBuilder();
        for (int k = 0; k < 8 && x.row(0, 1, way, k, 0) != -1; k++) {
            got.append(k == 0 ? "" : " ").append(x.row(0, 1, way, k, 0)).append(x.row(0, 1, way, k, 1));
        }
        DUE.is("row to " + way, got.toString(), want);
        int acts = want.isEmpty() ? 0 : want.split(" ").length;
        DUE.is("acts to " + way, way < 0 ? x.apart(0, 1) : x.fall(0, 1, way), acts);
    }

    // "In TRY r (0 up to RETRIES) a OFFERS its WAYS without its r best (as long as one is left)"
    private static void offersAsLongAsOneIsLeft() {
        for (int set = 0; set < 16; set++) {
            for (int retries = 0; retries < 4; retries++) {
                TalkDown x = new TalkDown();
                x.ways(0, set);
                x.ways(1, 15);
                x.mend(0, true);
                x.retries(retries);
                for (int way = 0; way < 4; way++) {
                    // BIND leaves the stranger nothing but DROPS, one for each better WAY of a
                    int better = count(set >> way + 1);
                    boolean can = (set >> way & 1) != 0 && better <= retries;
                    DUE.is("fall to " + way + " of " + set + " in " + retries, x.fall(0, 1, way), can ? better : -1);
                    for (int k = 0; can && k < better; k++) {
                        DUE.is("a DROP", x.row(0, 1, way, k, 0), 0);
                    }
                }
                DUE.is("safe in " + retries, x.safe(0, 1), retries == 0 || count(set) < 2 ? 1 : 0);
            }
        }
    }

    // "with MARK the offer of TRY r above 0 is marked", "b stops, if what comes is marked and b has a better WAY"
    private static void offersMarked() {
        for (int sets = 0; sets < 256; sets++) {
            TalkDown x = new TalkDown();
            x.ways(0, sets & 15);
            x.ways(1, sets >> 4);
            x.mend(0, true);
            x.mend(1, true);
            x.retries(3);
            int both = sets & 15 & sets >> 4;
            DUE.is("TRY 0 is not marked", x.fall(0, 1, Math.max(0, best(both))), both == 0 ? -1 : 0);
            DUE.is("b stops in each other TRY", x.lowest(0, 1), -1);
        }
        TalkDown x = Tapes.told("friend 0 has 1 2 3;friend 1 has 1 2 3;retries 3;mend bind;mend mark;broken 1;");
        row(x, 1, "12 30");
    }

    // "he may CHANGE the offer into any set of WAYS that isn't empty, marked or not"
    private static void changedIntoNoEmptySet() {
        for (int sets = 0; sets < 256; sets++) {
            TalkDown x = new TalkDown();
            x.ways(0, sets & 15);
            x.ways(1, sets >> 4);
            for (int goal = -1; goal < 4; goal++) {
                if (x.row(0, 1, goal, 0, 0) == 1) {
                    int set = x.row(0, 1, goal, 0, 1);
                    DUE.is("one WAY of b, unmarked", set > 0 && set < 16 && count(set) == 1 && (sets >> 4 & set) != 0, true);
                }
            }
        }
        TalkDown x = Tapes.told("friend 0 has 0;friend 1 has 1;");
        row(x, -1, "12 20");
        x.ways(1, 0);
        DUE.is("no set helps against one without WAYS", x.apart(0, 1), -1);
        x = Tapes.told("friend 1 has 0 1 2 3;");
        DUE.is("no set helps one who offers none", x.apart(0, 1), -1);
        DUE.is("nor to a FALL", x.fall(0, 1, 0), -1);
    }

    // "b PICKS the best of those that come and that b has; without one b stops"
    private static void withoutPickHearerStops() {
        TalkDown x = Tapes.told("friend 0 has 0 2;friend 1 has 1 3;retries 3;");
        for (int way = 0; way < 4; way++) {
            DUE.is("fall to a WAY of one only", x.fall(0, 1, way), -1);
            DUE.is("fall the other way round", x.fall(1, 0, way), -1);
        }
        row(x, -1, "12 20");
        x.mend(0, true);
        DUE.is("with BIND", x.apart(0, 1), -1);
        x = Tapes.told("friend 0 has 0 1 2 3;retries 3;broken 0 1 2 3;");
        for (int way = 0; way < 4; way++) {
            DUE.is("fall with one without WAYS", x.fall(0, 1, way), -1);
            DUE.is("fall of one without WAYS", x.fall(1, 0, way), -1);
        }
        DUE.is("apart with one without WAYS", x.apart(0, 1), -1);
        DUE.is("apart of one without WAYS", x.apart(1, 0), -1);
    }

    // "he can if the WAY that b picked and the one that a takes are both BROKEN"
    private static void forgedIfBothAreBroken() {
        for (int broken = 0; broken < 16; broken++) {
            TalkDown x = Tapes.told("friend 0 has 0 1 2 3;friend 1 has 0 1 2 3;mend bind;");
            x.broken(broken);
            for (int way = 0; way < 3; way++) {
                if ((broken >> way & 1) != 0) {
                    row(x, way, "1" + (1 << way) + " 30");
                } else {
                    DUE.is("fall to a WAY that isn't BROKEN", x.fall(0, 1, way), -1);
                }
            }
            int apart = count(broken) < 2 ? -1 : (broken & 8) != 0 ? 2 : 3;
            DUE.is("apart with BROKEN " + broken, x.apart(0, 1), apart);
        }
        for (int pick = 0; pick < 4; pick++) {
            for (int taken = 0; taken < 4; taken++) {
                for (int broken = 0; broken < 16; broken++) {
                    forgedApart(pick, taken, broken);
                }
            }
        }
    }

    private static void forgedApart(int pick, int taken, int broken) {
        TalkDown x = new TalkDown();
        x.ways(0, 1 << taken);
        x.ways(1, 1 << pick);
        x.mend(0, true);
        x.broken(broken);
        boolean both = (broken >> pick & 1) != 0 && (broken >> taken & 1) != 0;
        DUE.is("apart on " + pick + " and " + taken + " with BROKEN " + broken, x.apart(0, 1), both && pick != taken ? 3 : -1);
    }

    // "(with PIN) isn't below what is REMEMBERED of b" and "none at first: nothing is below it"
    private static void pinnedAtWhatIsRemembered() {
        for (int remembered = -1; remembered < 4; remembered++) {
            TalkDown x = new TalkDown();
            if (remembered >= 0) {
                x.ways(0, 1 << remembered);
                x.ways(1, 1 << remembered);
                x.meet(0, 1);
            }
            x.ways(0, 15);
            x.ways(1, 15);
            DUE.is("lowest without PIN", x.lowest(0, 1), 0);
            x.mend(2, true);
            for (int way = 0; way < 3; way++) {
                DUE.is("fall to " + way + " behind " + remembered, x.fall(0, 1, way), way < remembered ? -1 : 1);
                DUE.is("the other way round", x.fall(1, 0, way), way < remembered ? -1 : 1);
            }
            DUE.is("fall to BEST behind " + remembered, x.fall(0, 1, 3), 0);
            DUE.is("lowest behind " + remembered, x.lowest(0, 1), remembered == 3 ? -1 : Math.max(0, remembered));
            DUE.is("others have nothing REMEMBERED", x.remembers(0, 2), -1);
            x.ways(2, 15);
            DUE.is("fall with another", x.fall(0, 2, 0), 1);
            row(x, -1, remembered == 3 ? "11 23" : "2" + Math.max(0, remembered));
        }
    }

    // "FORBIDDEN WAYS are no one's"
    private static void forbiddenIsNoOnes() {
        Random random = new Random(3);
        for (int round = 0; round < 3000; round++) {
            TalkDown with = new TalkDown();
            TalkDown without = new TalkDown();
            int forbidden = random.nextInt(16);
            for (int friend = 0; friend < 3; friend++) {
                int set = random.nextInt(16);
                with.ways(friend, set);
                without.ways(friend, set & ~forbidden);
            }
            for (int way = 0; way < 4; way++) {
                with.mend(3 + way, (forbidden >> way & 1) != 0);
            }
            int mends = random.nextInt(8);
            int retries = random.nextInt(4);
            int broken = random.nextInt(16);
            for (TalkDown x : new TalkDown[] {with, without}) {
                x.meet(0, 1);
                x.retries(retries);
                x.broken(broken);
                for (int mend = 0; mend < 3; mend++) {
                    x.mend(mend, (mends >> mend & 1) != 0);
                }
            }
            DUE.is("FORBIDDEN " + forbidden, answers(with), answers(without));
        }
        TalkDown x = Tapes.told("friend 0 has 0 1 2 3;friend 1 has 0 1 2 3;retries 3;forbid 0;forbid 1;forbid 2;forbid 3;");
        DUE.is("all FORBIDDEN", answers(x), answers(new TalkDown()));
    }

    private static String answers(TalkDown x) {
        StringBuilder all = new StringBuilder();
        for (int pair : new int[] {1, 2, 5, 7, 10, 11}) {
            int a = pair / 5;
            int b = pair % 5;
            for (int way = -1; way < 4; way++) {
                all.append(' ').append(way < 0 ? x.apart(a, b) : x.fall(a, b, way));
                for (int k = 0; k < 4; k++) {
                    all.append(' ').append(x.row(a, b, way, k, 0)).append('/').append(x.row(a, b, way, k, 1));
                }
            }
            all.append(" safe ").append(x.safe(a, b)).append(" lowest ").append(x.lowest(a, b));
        }
        return all.append(" room ").append(x.room(7, -1)).toString();
    }

    // "(0: BEST, undisturbed in TRY 0)"
    private static void fallToBest() {
        for (int sets = 0; sets < 256; sets++) {
            TalkDown x = new TalkDown();
            x.ways(0, sets & 15);
            x.ways(1, sets >> 4);
            int best = best(sets & 15 & sets >> 4);
            for (int mend = 2; mend >= 0 && best >= 0; mend--) {
                DUE.is("fall to BEST", x.fall(0, 1, best), 0);
                x.mend(mend, true);
                DUE.is("fall to BEST with a MEND", x.fall(0, 1, best), 0);
                DUE.is("no act in its row", x.row(0, 1, best, 0, 0), -1);
            }
            DUE.is("no FALL above BEST", best == 3 ? -1 : x.fall(0, 1, 3), -1);
        }
    }

    // "NONE: it can't be"
    private static void fallCannotBe() {
        TalkDown x = Tapes.told("friend 0 has 1 2;friend 1 has 0 1 2 3;");
        DUE.is("a WAY that a hasn't, below", x.fall(0, 1, 0), -1);
        DUE.is("a WAY that a hasn't, above", x.fall(0, 1, 3), -1);
        DUE.is("a WAY that b hasn't, below", x.fall(1, 0, 0), -1);
        DUE.is("a WAY that b hasn't, above", x.fall(1, 0, 3), -1);
        DUE.is("a WAY of both", x.fall(1, 0, 1), 1);
        x.mend(0, true);
        DUE.is("with BIND", x.fall(1, 0, 1), -1);
        x.retries(1);
        DUE.is("with a retry too few", x.fall(1, 0, 1), -1);
        x.retries(2);
        DUE.is("with a retry more", x.fall(1, 0, 1), 2);
        x.mend(1, true);
        DUE.is("with MARK", x.fall(1, 0, 1), -1);
    }

    // "NONE: .. not as told"
    private static void fallNotAsTold() {
        Made full = Edges.rich().and(x -> x.ways(0, 15)).and(x -> x.ways(1, 15)).and(x -> x.mend(2, false));
        DUE.idle("fall to a WAY", full, x -> x.fall(0, 1, 2), 1);
        for (int way : Edges.outside(0, 3)) {
            DUE.idle("fall to " + way, full, x -> x.fall(0, 1, way), -1);
        }
    }

    // "APART likewise.": NONE: it can't be
    private static void apartCannotBe() {
        for (int way = 0; way < 4; way++) {
            TalkDown x = new TalkDown();
            x.ways(0, 1 << way);
            x.ways(1, 1 << way);
            x.retries(3);
            x.broken(15);
            DUE.is("both with one WAY, the same", x.apart(0, 1), -1);
            DUE.is("they are SAFE", x.safe(0, 1), 1);
            x.ways(1, 15);
            DUE.is("b with more", x.apart(0, 1), 2);
            DUE.is("a with more", x.apart(1, 0), 1);
        }
        Made met = Made.told("friend 0 has 1 2 3;friend 1 has 3;").and(x -> x.meet(0, 1));
        DUE.is("what a takes is below what is REMEMBERED, without PIN", met.object().apart(0, 1), 1);
        DUE.is("with PIN", met.and(x -> x.mend(2, true)).object().apart(0, 1), -1);
        DUE.idle("apart of the rich", Edges.rich(), x -> x.apart(0, 1), 2);
    }

    private static void apartEitherWay() {
        TalkDown x = Tapes.told("friend 0 has 3;friend 1 has 2 3;");
        DUE.is("0 to 1", x.apart(0, 1), 2);
        DUE.is("1 to 0", x.apart(1, 0), 1);
        DUE.is("what 1 takes", x.row(1, 0, -1, 0, 1), 2);
    }

    // "Of several rows of as few acts the one with the fewest DROPS"
    private static void fewestDrops() {
        TalkDown x = Tapes.told("friend 0 has 1 2 3;friend 1 has 1 2 3;retries 3;");
        row(x, 2, "14");
        x.mend(0, true);
        row(x, 2, "00");
        row(x, 1, "00 00");
        x.broken(2);
        row(x, 1, "12 30");
        x.broken(4);
        row(x, 2, "00");
        x.broken(6);
        row(x, -1, "12 22 30");
        x = Tapes.told("friend 0 has 0 1 2 3;friend 1 has 0 1 2 3;retries 3;mend bind;");
        row(x, 0, "00 00 00");
        x.broken(1);
        row(x, 0, "11 30");
        x.retries(2);
        x.broken(0);
        DUE.is("three DROPS in two retries", x.fall(0, 1, 0), -1);
    }

    // "CHANGED into the least set" (the offer as it is takes fewer acts than a CHANGED one, so that rule decides nothing)
    private static void leastSet() {
        row(Tapes.told("friend 0 has 3;friend 1 has 0 1 2 3;"), -1, "11 23");
        row(Tapes.told("friend 0 has 3;friend 1 has 1 2 3;"), -1, "12 23");
        row(Tapes.told("friend 0 has 3;friend 1 has 2 3;"), -1, "14 23");
        row(Tapes.told("friend 0 has 0;friend 1 has 0 2 3;"), -1, "14 20");
        row(Tapes.told("friend 0 has 0;friend 1 has 3;"), -1, "18 20");
        row(Tapes.told("friend 0 has 0 1 2 3;friend 1 has 1 3;"), 1, "12");
        row(Tapes.told("friend 0 has 3;friend 1 has 0 1 2;mend bind;broken 1 2 3;"), -1, "12 23 30");
    }

    // "unmarked ahead of marked"
    private static void unmarkedFirst() {
        row(Tapes.told("friend 0 has 2;friend 1 has 1;"), -1, "12 22");
        row(Tapes.told("friend 0 has 2;friend 1 has 1;mend mark;retries 3;"), -1, "12 22");
        row(Tapes.told("friend 0 has 3;friend 1 has 0;mend bind;mend mark;retries 3;broken 0 3;"), -1, "11 23 30");
    }

    // "then the least WAY that a takes"
    private static void leastTaken() {
        row(Tapes.told("friend 0 has 0 1 2 3;friend 1 has 3;"), -1, "20");
        row(Tapes.told("friend 0 has 1 2 3;friend 1 has 3;"), -1, "21");
        row(Tapes.told("friend 0 has 2 3;friend 1 has 3;"), -1, "22");
        row(Tapes.told("friend 0 has 0 1 2 3;friend 1 has 0;"), -1, "21");
        row(Tapes.told("friend 0 has 2 3;friend 1 has 0 1;"), -1, "11 22");
        row(Tapes.told("friend 0 has 0 1 2 3;friend 1 has 3;mend bind;broken 1 2 3;"), -1, "21 30");
    }

    // "The k-th act of the row": the first, the last, and those that aren't
    private static void rowPlaces() {
        places("friend 0 has 3;friend 1 has 3;", 3);
        places("friend 0 has 2 3;friend 1 has 2 3;", 2, 1);
        places("friend 0 has 2 3;friend 1 has 2 3;mend bind;retries 1;", 2, 0);
        places("friend 0 has 2 3;friend 1 has 2 3;", -1, 2);
        places("friend 0 has 2 3;friend 1 has 2 3;mend bind;broken 2;", 2, 1, 3);
        places("friend 0 has 2 3;friend 1 has 2 3;mend bind;broken 2 3;", -1, 2, 3);
        places("friend 0 has 3;friend 1 has 2;", -1, 1, 2);
        places("friend 0 has 3;friend 1 has 2;mend bind;broken 2 3;", -1, 1, 2, 3);
        places("friend 0 has 0 1 2 3;friend 1 has 0 1 2 3;mend bind;retries 3;", 0, 0, 0, 0);
        places("friend 0 has 3;friend 1 has 2;", 1);
        places("friend 0 has 3;friend 1 has 3;", -1);
    }

    private static void places(String text, int way, int... kinds) {
        Made made = Made.told(text);
        for (int k = 0; k < kinds.length; k++) {
            int act = k;
            DUE.idle(text + " act " + k, made, x -> x.row(0, 1, way, act, 0), kinds[k]);
            int detail = made.object().row(0, 1, way, k, 1);
            DUE.is(text + " detail of act " + k, kinds[k] == 0 || kinds[k] == 3 ? detail == 0 : detail > 0, true);
            for (int what : Edges.outside(0, 1)) {
                DUE.is(text + " what " + what, made.object().row(0, 1, way, k, what), -1);
            }
        }
        DUE.idle(text + " act behind the last", made, x -> x.row(0, 1, way, kinds.length, 0), -1);
        DUE.idle(text + " its detail", made, x -> x.row(0, 1, way, kinds.length, 1), -1);
        for (int k : NO_ACTS) {
            DUE.is(text + " act " + k, made.object().row(0, 1, way, k, 0), -1);
            DUE.is(text + " detail of act " + k, made.object().row(0, 1, way, k, 1), -1);
        }
    }

    // "NONE: none such."
    private static void rowNotAsTold() {
        Made full = Edges.rich().and(x -> x.ways(0, 15)).and(x -> x.ways(1, 15)).and(x -> x.mend(2, false));
        DUE.idle("row of FALL", full, x -> x.row(0, 1, 2, 0, 1), 4);
        DUE.idle("row of APART", full, x -> x.row(0, 1, -1, 0, 0), 2);
        for (int way : Edges.outside(-1, 3)) {
            DUE.idle("row to " + way, full, x -> x.row(0, 1, way, 0, 0), -1);
            DUE.is("its detail", full.object().row(0, 1, way, 0, 1), -1);
        }
        for (int what : Edges.outside(0, 1)) {
            DUE.idle("what " + what, full, x -> x.row(0, 1, 2, 0, what), -1);
            DUE.is("what " + what + " of APART", full.object().row(0, 1, -1, 0, what), -1);
        }
    }

    // "SAFE: no FALL to a WAY below BEST, and no APART"
    private static void safeEdges() {
        TalkDown x = Tapes.told("friend 0 has 2 3;friend 1 has 2 3;mend bind;");
        DUE.is("neither", x.safe(0, 1), 1);
        x.retries(1);
        DUE.is("FALL only", x.safe(0, 1), 0);
        DUE.is("no APART", x.apart(0, 1), -1);
        x = Tapes.told("friend 0 has 3;friend 1 has 2 3;");
        DUE.is("APART only", x.safe(0, 1), 0);
        DUE.is("no FALL", x.lowest(0, 1), -1);
        x = Tapes.told("friend 0 has 2 3;friend 1 has 2 3;");
        DUE.is("both", x.safe(0, 1), 0);
        x = Tapes.told("friend 0 has 0;friend 1 has 0;retries 3;broken 0;");
        DUE.is("BEST is the least WAY", x.safe(0, 1), 1);
        DUE.idle("safe of the rich", Edges.rich(), y -> y.safe(0, 1), 0);
        x = Tapes.told("friend 0 has 0 1;friend 1 has 0 1;mend bind;broken 0;");
        DUE.is("FALL to the least WAY only", x.safe(0, 1), 0);
        x.broken(2);
        DUE.is("FALL to BEST only", x.safe(0, 1), 1);
    }

    // "(those without a BEST are SAFE if they can't end APART)"
    private static void safeWithoutBest() {
        TalkDown x = Tapes.told("friend 0 has 1;friend 1 has 2;");
        DUE.is("they can end APART", x.safe(0, 1), 0);
        x.mend(0, true);
        DUE.is("they can't, with BIND", x.safe(0, 1), 1);
        x.broken(2);
        DUE.is("they can't, with one BROKEN", x.safe(0, 1), 1);
        x.broken(6);
        DUE.is("they can, with both BROKEN", x.safe(0, 1), 0);
        DUE.is("with one without WAYS", x.safe(0, 3), 1);
        DUE.is("of one without WAYS", x.safe(3, 0), 1);
        DUE.is("of two without WAYS", x.safe(3, 4), 1);
        x.mend(4, true);
        DUE.is("with one whose WAY is FORBIDDEN", x.safe(1, 0), 1);
    }

    // "The least WAY below BEST to which they can FALL. NONE: none."
    private static void lowestEdges() {
        for (int best = 0; best < 4; best++) {
            TalkDown x = new TalkDown();
            x.ways(0, (2 << best) - 1);
            x.ways(1, 15);
            DUE.is("the least of all below " + best, x.lowest(0, 1), best == 0 ? -1 : 0);
            x.ways(0, 1 << best);
            DUE.is("BEST only", x.lowest(0, 1), -1);
            x.ways(0, best == 0 ? 1 : 3 << best - 1);
            DUE.is("one below BEST", x.lowest(0, 1), best - 1);
        }
        TalkDown x = Tapes.told("friend 0 has 0 1 2 3;friend 1 has 0 1 2 3;mend bind;retries 1;");
        DUE.is("by one DROP", x.lowest(0, 1), 2);
        x.retries(3);
        DUE.is("by three DROPS", x.lowest(0, 1), 0);
        x.retries(0);
        DUE.is("by none", x.lowest(0, 1), -1);
        DUE.is("without a BEST", Tapes.told("friend 0 has 0 1;friend 1 has 2 3;").lowest(0, 1), -1);
        DUE.idle("lowest of the rich", Edges.rich(), y -> y.lowest(0, 1), -1);
    }

    private StrangerEdgeTest() {
    }
}
