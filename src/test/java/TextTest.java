/** Promises 1 to 5: a new object, the tape, the text with its FAULTS, and all as it's WRITTEN. */
public final class TextTest {
    private static final Due DUE = new Due();
    private static final String FULL = "friend 0 has 0 1 2 3;friend 1 has 0;friend 3 has 1 3;friend 4 has 2;broken 0 3;"
        + "retries 3;mend bind;mend mark;mend pin;forbid 0;forbid 1;forbid 2;forbid 3;cost bind 0;cost mark 9;"
        + "cost pin 11;cost forbid 0 100;cost forbid 1 1;cost forbid 2 99;cost forbid 3 20;"
        + "must 0 1;must 0 4;must 1 2;must 3 4;";

    public static void main(String[] args) {
        newObject();
        tape();
        tellsAll();
        faultsOfTokens();
        faultsOfPlaces();
        faultsOfNumbers();
        statementsAtMost();
        faultKept();
        faultChangesNothing();
        written();
        writtenAgain();
        DUE.end();
    }

    private static void newObject() {
        TalkDown x = new TalkDown();
        DUE.is("new: text(-1)", x.text(-1), 0);
        DUE.is("new: text(0)", x.text(0), -1);
        DUE.is("new: fault()", x.fault(), -1);
        DUE.is("new: tells(0)", x.tells(0), 0);
        DUE.is("new: tells(1)", x.tells(1), -2);
        for (int a = 0; a < 5; a++) {
            for (int b = 0; b < 5; b++) {
                DUE.is("new: best", x.best(a, b), -1);
                DUE.is("new: remembers", x.remembers(a, b), -1);
                DUE.is("new: apart", x.apart(a, b), -1);
                DUE.is("new: safe", x.safe(a, b), a == b ? -1 : 1);
            }
        }
        DUE.is("new: room", x.room(31, -1), 0);
        DUE.is("new: cheapest", x.cheapest(31, 0), 0);
    }

    private static void tape() {
        TalkDown x = new TalkDown();
        for (int many = 20; many <= 600; many += 20) {
            DUE.is("feed " + many, x.feed(0x20202020, 0x0a0a0a0a, 0x20202020, 0x20202020, 0x20202020), many);
        }
        DUE.is("feed beyond 600", x.feed(0, 0, 0, 0, 0), -1);
        DUE.is("tells(601)", x.tells(601), -2);
        DUE.is("tells(-1)", x.tells(-1), -2);
        DUE.is("tells(least)", x.tells(Integer.MIN_VALUE), -2);
        DUE.is("the bytes refused did not come", x.tells(600), 0);
        DUE.is("the tape is empty then", x.tells(1), -2);
        DUE.is("feed anew", x.feed(0, 0, 0, 0, 0), 20);
        DUE.is("of some bytes only", x.tells(0), 0);
        DUE.is("all bytes are gone", x.feed(0, 0, 0, 0, 0), 20);
        DUE.is("a zero byte begins no token", x.tells(20), -1);
        DUE.is("place of the zero byte", x.fault(), 0);
        TalkDown y = new TalkDown();
        y.feed(0x20202020, 0x20202080, -1, 0, 0);
        DUE.is("high bytes", y.tells(20), -1);
        DUE.is("place of byte 128", y.fault(), 7);
    }

    private static void tellsAll() {
        good("", 0, "");
        good(" \n ", 0, "");
        good("friend 0 has;", 1, "");
        good("friend 0 has 1;friend 0 has;", 2, "");
        good("friend0has1 2;", 1, "friend 0 has 1 2;");
        good(" \nfriend\n4 has 3 0 3 ; \n", 1, "friend 4 has 0 3;");
        good("friend 004 has 003;", 1, "friend 4 has 3;");
        good("friend 1 has 1;friend 1 has 2;", 2, "friend 1 has 2;");
        good("broken;", 1, "");
        good("broken 3 1;broken 2;", 2, "broken 2;");
        good("retries 3;retries 0;", 2, "");
        good("retries 003;", 1, "retries 3;");
        good("mend pin;mend bind;mend pin;", 3, "mend bind;mend pin;");
        good("forbid 2;forbid 0;", 2, "forbid 0;forbid 2;");
        good("cost bind 100;cost mark 0;cost pin 010;", 3, "cost bind 100;cost mark 0;");
        good("cost forbid 3 7;cost forbid 3 8;", 2, "cost forbid 3 8;");
        good("cost bind 5;cost bind 10;", 2, "");
        good("must 4 0;must 0 4;must 2 1;", 3, "must 0 4;must 1 2;");
        good("friend 0 has 0;forbid 0;", 2, "friend 0 has 0;forbid 0;");
        TalkDown x = Tapes.told(FULL);
        x.ways(2, 5);
        DUE.is("the second tells", Tapes.tell(x, "friend 3 has 1;"), 1);
        DUE.is("everything is as at first ahead of it", Tapes.written(x), "friend 3 has 1;");
        x.ways(4, 2);
        DUE.is("meet", x.meet(3, 4), 1);
        Tapes.tell(x, "friend 3 has 1;friend 4 has 1;");
        DUE.is("REMEMBERED too", x.remembers(3, 4), -1);
        TalkDown y = new TalkDown();
        Tapes.feed(y, "broken 1;broken 2;");
        DUE.is("first bytes only", y.tells(9), 1);
        DUE.is("told by the first bytes only", Tapes.written(y), "broken 1;");
        DUE.is("the rest is gone", y.tells(1), -2);
    }

    private static void good(String text, int statements, String written) {
        Tapes.good(DUE, text, statements, written);
    }

    private static void bad(String text, int place) {
        Tapes.bad(DUE, text, place);
    }

    private static void faultsOfTokens() {
        bad("x", 0);
        bad("fri", 0);
        bad("friends 0 has;", 0);
        bad("friendz 0 has;", 0);
        bad("griend 0 has;", 0);
        bad("Friend 0 has;", 0);
        bad("3;", 0);
        bad(";", 0);
        bad("  ;", 2);
        bad("broken;;", 7);
        bad("broken; ;", 8);
        bad("bind;", 0);
        bad("has 1;", 0);
        bad("broken 1\t;", 8);
        bad("broken 1\r;", 8);
        bad("brokenA;", 6);
        bad("broken 1 -;", 9);
        bad("broken 1,2;", 8);
        bad("broken 1a;", 8);
        bad("broken 1 broken 2;", 9);
        bad("broken 1;#", 9);
    }

    private static void faultsOfPlaces() {
        bad("friend", 6);
        bad("friend  ", 8);
        bad("friend 0", 8);
        bad("friend 0 ha", 9);
        bad("friend 0 has", 12);
        bad("friend 0 has 1 ", 15);
        bad("friend 0 1;", 9);
        bad("friend has 1;", 7);
        bad("friend 0 has has;", 13);
        bad("broken 1; broken 2", 18);
        bad("retries;", 7);
        bad("retries 1 1;", 10);
        bad("retries one;", 8);
        bad("mend;", 4);
        bad("mend", 4);
        bad("mend 0;", 5);
        bad("mend bind pin;", 10);
        bad("forbid;", 6);
        bad("forbid 1 2;", 9);
        bad("forbid bind;", 7);
        bad("cost 1;", 5);
        bad("cost bind;", 9);
        bad("cost bind mark;", 10);
        bad("cost bind 1 1;", 12);
        bad("cost forbid;", 11);
        bad("cost forbid bind 1;", 12);
        bad("cost forbid 1;", 13);
        bad("cost forbid 1", 13);
        bad("cost forbid 1 1", 15);
        bad("cost forbid 1 1 1;", 16);
        bad("friend broken;", 7);
        bad("friend 0 broken;", 9);
        bad("friend 0 has broken;", 13);
        bad("broken broken;", 7);
        bad("retries broken;", 8);
        bad("retries 1 broken;", 10);
        bad("mend broken;", 5);
        bad("mend pin broken;", 9);
        bad("forbid broken;", 7);
        bad("forbid 1 broken;", 9);
        bad("cost broken;", 5);
        bad("cost forbid broken;", 12);
        bad("cost bind broken;", 10);
        bad("must broken;", 5);
        bad("must 1 broken;", 7);
        bad("must;", 4);
        bad("must 1;", 6);
        bad("must 1 2 3;", 9);
        bad("must 1 2", 8);
    }

    private static void faultsOfNumbers() {
        bad("friend 5 has 1;", 7);
        bad("friend 0004 has 1;", 7);
        bad("friend 12 has 1;", 7);
        bad("friend 0 has 1 4;", 15);
        bad("friend 0 has 0123;", 13);
        bad("friend 0 has 01 0000 1;", 16);
        bad("broken 4;", 7);
        bad("retries 4;", 8);
        bad("retries 0003;", 8);
        bad("forbid 4;", 7);
        bad("cost bind 101;", 10);
        bad("cost bind 0100;", 10);
        bad("cost bind 99999999999999999999;", 10);
        bad("cost bind 4294967296;", 10);
        bad("cost forbid 4 1;", 12);
        bad("cost forbid 3 101;", 14);
        bad("must 5 1;", 5);
        bad("must 1 5;", 7);
        bad("must 3 3;", 7);
        bad("must 3 03;", 7);
    }

    private static void statementsAtMost() {
        String full = "broken 1;".repeat(32);
        good(full, 32, "broken 1;");
        good(full + " \n", 32, "broken 1;");
        bad(full + "broken 1;", 288);
        bad(full + "  broken 1;", 290);
        bad(full + " broken", 289);
        bad(full + " broken 9;", 289);
        bad(full + ";", 288);
        bad(full + " #", 289);
        bad("broken 1;".repeat(31) + "broken", 285);
    }

    private static void faultKept() {
        TalkDown x = new TalkDown();
        Tapes.tell(x, "retries 9;");
        DUE.is("fault", x.fault(), 8);
        DUE.is("tells(7) of an empty tape", x.tells(7), -2);
        DUE.is("-2 leaves the fault", x.fault(), 8);
        DUE.is("feed behind a fault", x.feed(0, 0, 0, 0, 0), 20);
        DUE.is("tells(21)", x.tells(21), -2);
        DUE.is("-2 leaves the tape", x.feed(0, 0, 0, 0, 0), 40);
        DUE.is("tells(0)", x.tells(0), 0);
        DUE.is("no fault then", x.fault(), -1);
    }

    private static void faultChangesNothing() {
        TalkDown x = Tapes.told(FULL);
        x.mend(3, false);
        DUE.is("a mend off is not written", Tapes.written(x), FULL.replace("forbid 0;forbid 1", "forbid 1"));
        x = Tapes.told("friend 0 has 1;friend 1 has 1 2;mend pin;");
        x.meet(0, 1);
        Tapes.tell(x, "friend 0 has 2;retries 3;mend bind;cost pin 1;must 0 1;broken 1;forbid 1;broken 4;");
        DUE.is("place", x.fault(), 80);
        DUE.is("a fault changes nothing", Tapes.written(x), "friend 0 has 1;friend 1 has 1 2;mend pin;");
        DUE.is("REMEMBERED stays", x.remembers(0, 1), 1);
    }

    private static void written() {
        Made made = Made.fresh().and(x -> x.must(4, 3, true)).and(x -> x.must(2, 1, true)).and(x -> x.must(1, 0, true))
            .and(x -> x.must(0, 4, true));
        int[] costs = {0, 9, 11, 100, 1, 99, 20};
        for (int mend = 6; mend >= 0; mend--) {
            int which = mend;
            made = made.and(x -> x.cost(which, costs[which])).and(x -> x.mend(which, true));
        }
        made = made.and(x -> x.retries(3)).and(x -> x.broken(9)).and(x -> x.ways(4, 4)).and(x -> x.ways(3, 10))
            .and(x -> x.ways(1, 1)).and(x -> x.ways(0, 15));
        DUE.is("written", made.written(), FULL);
        made = made.and(x -> x.cost(0, 10)).and(x -> x.must(4, 3, false)).and(x -> x.retries(0)).and(x -> x.broken(0))
            .and(x -> x.ways(0, 0));
        DUE.is("written less", made.written(), FULL.replace("cost bind 0;", "").replace("must 3 4;", "")
            .replace("retries 3;", "").replace("broken 0 3;", "").replace("friend 0 has 0 1 2 3;", ""));
    }

    private static void writtenAgain() {
        Made made = Made.told(FULL);
        DUE.is("told and written", made.written(), FULL);
        for (int a = 0; a < 5; a++) {
            int friend = a;
            made = made.and(x -> x.ways(friend, 15));
            for (int b = 0; b < a; b++) {
                int other = b;
                made = made.and(x -> x.must(friend, other, true));
            }
        }
        made = made.and(x -> x.broken(15));
        for (int mend = 0; mend < 7; mend++) {
            int which = mend;
            made = made.and(x -> x.cost(which, 100));
        }
        String longest = made.written();
        DUE.is("the longest text", longest.length(), 398);
        DUE.is("the longest text told", Tapes.tell(made.object(), longest), 31);
        DUE.is("the longest text again", made.and(x -> Tapes.tell(x, longest)).written(), longest);
    }

    private TextTest() {
    }
}
