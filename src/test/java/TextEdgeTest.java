/**
 * Promises 1 to 5 at their edges: a test of its own for each sentence that names one; the sentence stands above its
 * test.
 */
public final class TextEdgeTest {
    private static final Due DUE = new Due();
    private static final int[] WRONG_TEXT_PLACES = {Integer.MIN_VALUE, Integer.MIN_VALUE + 1, -600, -3, -2, 600, 65536,
        Integer.MAX_VALUE - 1, Integer.MAX_VALUE};
    private static final String LONGEST = "friend 0 has 0 1 2 3;friend 1 has 0 1 2 3;friend 2 has 0 1 2 3;"
        + "friend 3 has 0 1 2 3;friend 4 has 0 1 2 3;broken 0 1 2 3;retries 3;mend bind;mend mark;mend pin;forbid 0;forbid 1;"
        + "forbid 2;forbid 3;cost bind 100;cost mark 100;cost pin 100;cost forbid 0 100;cost forbid 1 100;"
        + "cost forbid 2 100;cost forbid 3 100;must 0 1;must 0 2;must 0 3;must 0 4;must 1 2;must 1 3;must 1 4;must 2 3;"
        + "must 2 4;must 3 4;";

    public static void main(String[] args) {
        newObject();
        newObjectBesideAnother();
        feedOrder();
        feedFull();
        tellsOutside();
        tellsFirstBytes();
        tellsCutInsideTokens();
        tellsLeavesTapeEmpty();
        tellsAsAtFirst();
        tellsFaultChangesNothing();
        faultPlaces();
        faultKept();
        textPlaces();
        DUE.end();
    }

    // "TalkDown(): FRIENDS without WAYS; no MENDS." with "none at first", "0 at first", "10 at first"
    private static void newObject() {
        Made made = Made.fresh();
        DUE.is("new: nothing is written", made.written(), "");
        DUE.is("new: as told by an empty text", made.all(), made.and(x -> x.tells(0)).all());
        DUE.is("new: fault", made.object().fault(), -1);
        DUE.is("new: an empty tape", made.object().feed(0, 0, 0, 0, 0), 20);
        for (int mend = 0; mend < 7; mend++) {
            int which = mend;
            DUE.refused("new: mend off is so", made, x -> x.mend(which, false));
            DUE.is("new: mend on is not so", made.object().mend(mend, true), true);
        }
        for (int pair = 0; pair < 25; pair++) {
            int a = pair / 5;
            int b = pair % 5;
            DUE.is("new: best", made.object().best(a, b), -1);
            DUE.is("new: meet", made.object().meet(a, b), -1);
            DUE.is("new: remembers", made.object().remembers(a, b), -1);
            DUE.is("new: must", made.object().must(a, b, false), false);
        }
        Made two = made.and(x -> x.ways(0, 12)).and(x -> x.ways(1, 12));
        DUE.is("new: a MEND costs 10", two.object().cheapest(3, 0), 10);
        DUE.is("new: BIND can't be forged, no offer dropped", two.and(x -> x.mend(0, true)).object().safe(0, 1), 1);
    }

    private static void newObjectBesideAnother() {
        TalkDown full = Made.told(LONGEST).object();
        full.feed(0, 0, 0, 0, 0);
        DUE.is("new beside a full one", Made.fresh().all(), Made.fresh().and(x -> x.tells(0)).all());
        DUE.is("a full one beside a new one", full.feed(0, 0, 0, 0, 0), 40);
    }

    // "Twenty bytes come behind those on the tape, of each number the highest first: how many there are."
    private static void feedOrder() {
        for (int place = 0; place < 600; place++) {
            TalkDown x = new TalkDown();
            int many = Tapes.feed(x, " ".repeat(place) + "#" + " ".repeat(599 - place));
            DUE.is("bytes on the tape", many, 600);
            DUE.is("tells of a byte that begins no token", x.tells(600), -1);
            DUE.is("the place of the byte", x.fault(), place);
        }
        for (int letter = 0; letter < 256; letter++) {
            for (int place = 0; place < 20; place++) {
                TalkDown x = new TalkDown();
                Tapes.feed(x, " ".repeat(place) + (char) letter + "\n".repeat(19 - place));
                boolean blank = letter == 32 || letter == 10;
                DUE.is("tells of byte " + letter, x.tells(20), blank ? 0 : -1);
                DUE.is("fault of byte " + letter, x.fault(), blank ? -1 : place);
            }
        }
        TalkDown x = new TalkDown();
        DUE.is("the lowest and the highest int", x.feed(Integer.MIN_VALUE, Integer.MAX_VALUE, -1, 0, 1), 20);
        DUE.is("their bytes", x.tells(20), -1);
    }

    // "NONE, doing nothing: there would be more than 600."
    private static void feedFull() {
        String tail = "retries 2;";
        Made all = Made.fresh().and(x -> Tapes.feed(x, " ".repeat(560)));
        DUE.is("feed up to 580", all.object().feed(0, 0, 0, 0, 0), 580);
        Made almost = all.and(x -> Tapes.feed(x, " ".repeat(20)));
        DUE.is("feed up to 600", almost.object().feed(0, 0, 0, 0, 0), 600);
        Made full = almost.and(x -> Tapes.feed(x, " ".repeat(10) + tail));
        DUE.is("the full tape tells", full.object().tells(600), 1);
        DUE.idle("feed beyond 600", full, x -> x.feed(0, 0, 0, 0, 0), -1);
        DUE.idle("feed of blanks beyond 600", full, x -> Tapes.feed(x, " ".repeat(20)), -1);
        Made refused = full.and(x -> x.feed(1, 2, 3, 4, 5));
        DUE.is("tells(601) behind it", refused.object().tells(601), -2);
        DUE.is("tells(600) behind it", refused.object().tells(600), 1);
        Made anew = refused.and(x -> x.tells(600));
        DUE.is("a full tape again", Tapes.feed(anew.object(), " ".repeat(600)), 600);
    }

    // "-2, doing nothing: n is below 0 or more than there are."
    private static void tellsOutside() {
        for (int n : Edges.outside(0, 40)) {
            DUE.idle("tells(" + n + ") of 40", Edges.rich(), x -> x.tells(n), -2);
        }
        for (int n : Edges.outside(0, 0)) {
            DUE.idle("tells(" + n + ") of 0", Made.fresh(), x -> x.tells(n), -2);
        }
        Made full = Made.fresh().and(x -> Tapes.feed(x, "broken 1;".repeat(20) + " ".repeat(420)));
        for (int n : Edges.outside(0, 600)) {
            DUE.idle("tells(" + n + ") of 600", full, x -> x.tells(n), -2);
        }
        DUE.is("tells(0) of 0", new TalkDown().tells(0), 0);
        DUE.is("tells(0) of 40", Edges.rich().object().tells(0), 0);
        DUE.is("tells(40) of 40", Edges.rich().object().tells(40), 3);
        DUE.is("tells(600) of 600", full.object().tells(600), 20);
    }

    // "The first n bytes of the tape .. tell it all"
    private static void tellsFirstBytes() {
        String text = "retries 1;retries 2;";
        for (int n = 0; n <= 20; n++) {
            int first = n;
            Made made = Made.fresh().and(x -> Tapes.feed(x, text + "retries 3;broken 0; "));
            boolean whole = n % 10 == 0;
            DUE.is("tells(" + n + ")", made.object().tells(n), whole ? n / 10 : -1);
            String want = n == 0 || !whole ? "" : "retries " + n / 10 + ";";
            DUE.is("told by " + n + " bytes", made.and(x -> x.tells(first)).written(), want);
        }
    }

    private static void tellsCutInsideTokens() {
        cut("cost bind 1000;", 13, 13);
        cut("cost bind 1000;", 14, 10);
        cut("cost bind 1000;", 15, 10);
        cut("friends 0 has;", 6, 6);
        cut("friends 0 has;", 7, 0);
        cut("friend 01 has;", 8, 8);
        cut("friend 0 hash;", 12, 12);
        cut("retries 1#", 9, 9);
        cut("retries 1#", 10, 9);
        TalkDown x = new TalkDown();
        Tapes.feed(x, "retries 1;#");
        DUE.is("the byte behind the first n doesn't matter", x.tells(10), 1);
    }

    private static void cut(String text, int n, int place) {
        TalkDown x = new TalkDown();
        Tapes.feed(x, text);
        DUE.is("tells(" + n + ") of " + text, x.tells(n), -1);
        DUE.is("its FAULT", x.fault(), place);
    }

    // "(which is empty then)"
    private static void tellsLeavesTapeEmpty() {
        DUE.is("behind all bytes", Edges.rich().and(x -> x.tells(40)).bytesOnTape(), 0);
        DUE.is("behind some bytes", Edges.rich().and(x -> x.tells(15)).bytesOnTape(), 0);
        DUE.is("behind no bytes", Edges.rich().and(x -> x.tells(0)).bytesOnTape(), 0);
        DUE.is("behind a FAULT", Edges.rich().and(x -> x.tells(14)).bytesOnTape(), 0);
        DUE.is("one byte of the empty tape", Edges.rich().and(x -> x.tells(14)).object().tells(1), -2);
        DUE.is("behind -2", Edges.rich().and(x -> x.tells(41)).bytesOnTape(), 40);
    }

    // "everything is as at first (REMEMBERED too), then as told"
    private static void tellsAsAtFirst() {
        DUE.is("there was much to forget", Edges.rich().object().remembers(1, 0), 2);
        DUE.is("by no bytes", Edges.rich().and(x -> x.tells(0)).all(), Made.fresh().all());
        DUE.is("by blanks", Edges.rich().and(x -> x.tells(0)).and(x -> Tapes.tell(x, " \n ")).all(), Made.fresh().all());
        Made full = Made.told(LONGEST).and(x -> x.tells(0));
        DUE.is("by no bytes behind the longest text", full.all(), Made.fresh().all());
        DUE.is("then as told", Edges.rich().and(x -> x.tells(40)).all(), Made.told("friend 3 has 2;retries 1;mend bind;").all());
    }

    // "NONE: a FAULT (nothing changes)"
    private static void tellsFaultChangesNothing() {
        Made empty = Edges.rich().and(x -> x.tells(14));
        DUE.is("a FAULT of a few bytes", Edges.rich().object().tells(14), -1);
        DUE.is("it changes nothing", empty.state(), Edges.rich().state());
        String[] ends = {"friend 5", "#", "must 1 1;", "broken", "retries 4;", "0;"};
        for (String end : ends) {
            String text = "friend 0 has 3;friend 2 has;broken 2;retries 3;mend bind;forbid 1;cost bind 9;cost pin 0;must 2 3;" + end;
            DUE.is("tells with a FAULT", Tapes.tell(empty.object(), text), -1);
            DUE.is("the FAULT changes nothing", empty.and(x -> Tapes.tell(x, text)).state(), Edges.rich().state());
        }
        String many = LONGEST + "broken;broken;";
        DUE.is("tells 33 statements", Tapes.tell(empty.object(), many), -1);
        DUE.is("33 statements change nothing", empty.and(x -> Tapes.tell(x, many)).state(), Edges.rich().state());
        Made fresh = Made.fresh().and(x -> Tapes.tell(x, many));
        DUE.is("33 statements told to a new object", fresh.state(), Made.fresh().state());
    }

    // "The FAULT's place": the first and the last that there can be
    private static void faultPlaces() {
        TalkDown x = new TalkDown();
        Tapes.tell(x, ";");
        DUE.is("the first place", x.fault(), 0);
        x = new TalkDown();
        Tapes.tell(x, " ".repeat(599) + ";");
        DUE.is("the last byte", x.fault(), 599);
        x = new TalkDown();
        Tapes.tell(x, " ".repeat(594) + "broken");
        DUE.is("the length of a full tape's text", x.fault(), 600);
        x = new TalkDown();
        Tapes.tell(x, "broken" + " ".repeat(594));
        DUE.is("the length of a full tape's text, behind blanks", x.fault(), 600);
        x = new TalkDown();
        DUE.is("a full tape with the last statement at its end", Tapes.tell(x, " ".repeat(593) + "broken;"), 1);
        DUE.is("no FAULT", x.fault(), -1);
    }

    // "The FAULT's place of the latest tells() that was a number or NONE; NONE: it had none."
    private static void faultKept() {
        Made made = Made.fresh().and(x -> Tapes.tell(x, "broken 7;"));
        DUE.is("of the latest", made.object().fault(), 7);
        DUE.idle("asked again", made, x -> x.fault(), 7);
        DUE.is("behind -2, too many", made.and(x -> x.tells(1)).object().fault(), 7);
        DUE.is("behind -2, below 0", made.and(x -> x.tells(-1)).object().fault(), 7);
        DUE.is("behind a feed", made.and(x -> x.feed(0, 0, 0, 0, 0)).object().fault(), 7);
        DUE.is("behind other calls", made.and(x -> x.ways(0, 1)).and(x -> x.mend(0, true)).object().fault(), 7);
        DUE.is("behind another FAULT", made.and(x -> Tapes.tell(x, "x")).object().fault(), 0);
        DUE.is("behind a text without", made.and(x -> Tapes.tell(x, "broken 3;")).object().fault(), -1);
        DUE.is("behind an empty text", made.and(x -> x.tells(0)).object().fault(), -1);
        DUE.is("NONE behind -2", Made.told("broken;").and(x -> x.tells(1)).object().fault(), -1);
        DUE.is("NONE of a new object behind -2", Made.fresh().and(x -> x.tells(1)).object().fault(), -1);
    }

    // "Byte i of all as it's WRITTEN; how many (i NONE). NONE: none such."
    private static void textPlaces() {
        Made[] all = {Made.fresh(), Made.told("broken 0;"), Made.told(LONGEST)};
        String[] written = {"", "broken 0;", LONGEST};
        for (int i = 0; i < all.length; i++) {
            int length = written[i].length();
            DUE.idle("how many", all[i], x -> x.text(-1), length);
            DUE.idle("behind the last", all[i], x -> x.text(length), -1);
            DUE.is("two behind the last", all[i].object().text(length + 1), -1);
            for (int place : WRONG_TEXT_PLACES) {
                DUE.idle("text(" + place + ")", all[i], x -> x.text(place), -1);
            }
            TalkDown x = all[i].object();
            for (int place = 0; place < length; place++) {
                DUE.is("text(" + place + ")", x.text(place), written[i].charAt(place));
            }
            DUE.is("behind the last, once that has been asked", x.text(length), -1);
            DUE.is("ahead of the first, once others have been asked", x.text(-2), -1);
        }
        DUE.is("the longest text there is", LONGEST.length(), 398);
    }

    private TextEdgeTest() {
    }
}
