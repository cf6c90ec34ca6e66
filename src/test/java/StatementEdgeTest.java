import java.util.Random;

/**
 * The edges of "==== 3.", the text that tells all and all as it's WRITTEN: a test of its own for each sentence that
 * names one; the sentence stands above its test.
 */
public final class StatementEdgeTest {
    private static final Due DUE = new Due();
    private static final String[] STATEMENTS = {"friend 4 has 3 0;", "friend 0 has;", "broken 3 1;", "broken;", "retries 3;",
        "mend bind;", "mend mark;", "mend pin;", "forbid 3;", "cost bind 100;", "cost mark 0;", "cost pin 9;",
        "cost forbid 3 100;", "must 4 0;", "must 0 4;"};
    private static final String[] TOKENS = {"friend", "has", "broken", "retries", "mend", "forbid", "cost", "must", "bind",
        "mark", "pin", ";", "0", "1", "3", "4", "5", "100", "101", "000", "0000", "hass", "#"};

    public static void main(String[] args) {
        digits();
        friendsUpToFour();
        waysUpToThree();
        retriesUpToThree();
        costsUpToHundred();
        mustOfUnlikeOnes();
        greatNumbers();
        tokensAsLongAsTheyGo();
        blanks();
        statementsAtMost();
        lastHolds();
        bytesThatBeginNoToken();
        moreMustCome();
        firstFaultCounts();
        rowsOfTokens();
        spoiltTexts();
        writtenFriends();
        writtenBrokenAndRetries();
        writtenMends();
        writtenCosts();
        writtenMusts();
        DUE.end();
    }

    /** Each ";" of a good text ends a statement. */
    private static void good(String text, String written) {
        Tapes.good(DUE, text, text.replaceAll("[^;]", "").length(), written);
    }

    private static void bad(String text, int place) {
        Tapes.bad(DUE, text, place);
    }

    /** The text with a number in the place of "?": a good one, written with it. */
    private static void goodNumber(String text, String number, String written) {
        good(text.replace("?", number), written);
    }

    /** The text with a number in the place of "?": the FAULT is the number's place. */
    private static void badNumber(String text, String number) {
        bad(text.replace("?", number), text.indexOf('?'));
    }

    // "NUMBER: one to three digits"
    private static void digits() {
        String[] takers = {"friend ? has 0;", "friend 0 has ?;", "friend 0 has 1 ? 2;", "broken ?;", "retries ?;", "forbid ?;",
            "cost bind ?;", "cost forbid ? 1;", "cost forbid 1 ?;", "must ? 2;", "must 2 ?;"};
        for (String text : takers) {
            TalkDown one = new TalkDown();
            DUE.is("one digit in " + text, Tapes.tell(one, text.replace("?", "1")), 1);
            String written = Tapes.written(one);
            goodNumber(text, "01", written);
            goodNumber(text, "001", written);
            badNumber(text, "0001");
            badNumber(text, "00001");
            badNumber(text, "1".repeat(30));
            badNumber(text, "0".repeat(30));
            bad(text.replace("?", "#"), text.indexOf('?'));
        }
        goodNumber("retries ?;", "000", "");
        badNumber("retries ?;", "0000");
    }

    // "F one up to 4"
    private static void friendsUpToFour() {
        for (int friend = 0; friend < 5; friend++) {
            String number = Integer.toString(friend);
            goodNumber("friend ? has 2;", number, "friend " + number + " has 2;");
            int other = friend == 4 ? 3 : 4;
            String pair = "must " + Math.min(friend, other) + " " + Math.max(friend, other) + ";";
            goodNumber("must ? " + other + ";", number, pair);
            goodNumber("must " + other + " ?;", number, pair);
        }
        for (String number : new String[] {"5", "6", "9", "10", "05", "005", "40", "100", "256", "260", "999"}) {
            badNumber("friend ? has 2;", number);
            badNumber("must ? 1;", number);
            badNumber("must 1 ?;", number);
        }
    }

    // "W one up to 3"
    private static void waysUpToThree() {
        for (int way = 0; way < 4; way++) {
            String number = Integer.toString(way);
            goodNumber("friend 1 has ?;", number, "friend 1 has " + way + ";");
            goodNumber("broken ?;", number, "broken " + way + ";");
            goodNumber("forbid ?;", number, "forbid " + way + ";");
            goodNumber("cost forbid ? 1;", number, "cost forbid " + way + " 1;");
        }
        for (String number : new String[] {"4", "5", "7", "9", "04", "004", "10", "13", "31", "32", "100", "256", "999"}) {
            badNumber("friend 1 has ?;", number);
            badNumber("friend 1 has 3 ?;", number);
            badNumber("broken ?;", number);
            badNumber("broken 0 1 2 3 ?;", number);
            badNumber("forbid ?;", number);
            badNumber("cost forbid ? 1;", number);
        }
        good("friend 1 has 3 3 2 1 0 0 1 2 3;", "friend 1 has 0 1 2 3;");
        good("broken" + " 3".repeat(290) + ";", "broken 3;");
    }

    // "RETRIES up to 3"
    private static void retriesUpToThree() {
        good("retries 0;", "");
        good("retries 1;", "retries 1;");
        good("retries 3;", "retries 3;");
        for (String number : new String[] {"4", "5", "9", "10", "004", "30", "100", "256", "999"}) {
            badNumber("retries ?;", number);
        }
        bad("retries;", 7);
    }

    // "costs up to 100"
    private static void costsUpToHundred() {
        for (String name : new String[] {"bind", "mark", "pin", "forbid 0", "forbid 1", "forbid 2", "forbid 3"}) {
            String text = "cost " + name + " ?;";
            for (String number : new String[] {"0", "1", "9", "11", "99", "100"}) {
                goodNumber(text, number, text.replace("?", number));
            }
            goodNumber(text, "10", "");
            goodNumber(text, "010", "");
            goodNumber(text, "000", "cost " + name + " 0;");
            for (String number : new String[] {"101", "102", "110", "200", "256", "356", "999", "1000"}) {
                badNumber(text, number);
            }
        }
    }

    // "of "must" two unlike ones"
    private static void mustOfUnlikeOnes() {
        for (int a = 0; a < 5; a++) {
            for (int b = 0; b < 5; b++) {
                String text = "must " + a + " " + b + ";";
                if (a == b) {
                    bad(text, 7);
                    bad("must " + a + " 0" + b + ";", 7);
                    bad("must 00" + a + " " + b + ";", 9);
                } else {
                    good(text, "must " + Math.min(a, b) + " " + Math.max(a, b) + ";");
                }
            }
        }
    }

    // "(a number above its bound, too)": also one that an int or a long doesn't hold
    private static void greatNumbers() {
        String[] numbers = {"2147483647", "2147483648", "4294967296", "4294967297", "9223372036854775807",
            "18446744073709551616", "18446744073709551617", "9".repeat(500), "0".repeat(500)};
        for (String number : numbers) {
            badNumber("friend ? has 1;", number);
            badNumber("friend 1 has ?;", number);
            badNumber("broken 1 ?;", number);
            badNumber("retries ?;", number);
            badNumber("cost bind ?;", number);
            badNumber("must 1 ?;", number);
        }
    }

    // "Tokens as long as they go: words of letters a to z, digits, ";""
    private static void tokensAsLongAsTheyGo() {
        good("friend0has1 2;broken3;retries2;mend bind;forbid1;cost pin5;cost forbid2 6;must3 4;",
            "friend 0 has 1 2;broken 3;retries 2;mend bind;forbid 1;cost pin 5;cost forbid 2 6;must 3 4;");
        bad("friend 0 has 12;", 13);
        good("friend 0 has 1 2;", "friend 0 has 1 2;");
        bad("must 12;", 5);
        bad("must12;", 4);
        bad("mendbind;", 0);
        bad("mend bindpin;", 5);
        bad("costbind 1;", 0);
        bad("cost forbidbind 1;", 5);
        bad("cost forbid 11;", 12);
        bad("cost forbid 01;", 14);
        bad("fri end 0 has;", 0);
        bad("friend 0 ha s;", 9);
        bad("retries 0 1;", 10);
        bad("friend 0 has 1;;", 15);
        for (String word : new String[] {"frien", "friendd", "friend", "ffriend", "f"}) {
            TalkDown x = new TalkDown();
            DUE.is("the word " + word, Tapes.tell(x, word + " 0 has 1;"), word.equals("friend") ? 1 : -1);
            DUE.is("its place", x.fault(), word.equals("friend") ? -1 : 0);
        }
    }

    // "between them blanks (bytes 32 and 10)"
    private static void blanks() {
        for (String statement : STATEMENTS) {
            String written = Tapes.written(Tapes.told(statement));
            good(" " + statement, written);
            good("\n" + statement + "\n", written);
            good(statement.replace(" ", "\n"), written);
            good(statement.replace(" ", " \n\n  ").replace(";", "  \n;  "), written);
            for (char other : new char[] {0, 9, 11, 12, 13, 31, 33, 127, 128, 160, 255}) {
                bad(statement.replace(";", other + ";"), statement.indexOf(';'));
                bad(statement + other, statement.length());
                bad(other + statement, 0);
            }
        }
        good(" ".repeat(593) + "broken;", "");
        good("broken;" + "\n".repeat(593), "");
        good("broken" + " ".repeat(593) + ";", "");
    }

    // "At most 32 statements" and "the 33rd statement: where it begins"
    private static void statementsAtMost() {
        String full = "retries 1;".repeat(31) + "retries 2;";
        good("retries 1;".repeat(31), "retries 1;");
        good(full, "retries 2;");
        good(full + " \n".repeat(140), "retries 2;");
        String[] more = {"retries 3;", "friend 0 has;", "retries", "retries 4;", "mend", "x", "0", ";", "#", "friends"};
        for (String next : more) {
            bad(full + next, 320);
            bad(full + " " + next, 321);
            bad(full + "\n \n" + next + " ", 323);
            bad(full + next + full.substring(0, 100), 320);
        }
        bad("retries 1;".repeat(31) + "retries", 317);
        bad("retries 1;".repeat(31) + "retries 4;retries 1;", 318);
        bad("broken;".repeat(85), 224);
        String kinds = String.join("", STATEMENTS);
        good(kinds + kinds, "friend 4 has 0 3;retries 3;mend bind;mend mark;mend pin;forbid 3;cost bind 100;cost mark 0;"
            + "cost pin 9;cost forbid 3 100;must 0 4;");
        good(kinds + kinds + "broken 2;broken;", "friend 4 has 0 3;retries 3;mend bind;mend mark;mend pin;forbid 3;"
            + "cost bind 100;cost mark 0;cost pin 9;cost forbid 3 100;must 0 4;");
        bad(kinds + kinds + "broken 2;broken;broken;", 2 * kinds.length() + 16);
    }

    // "of several of one thing the last holds"
    private static void lastHolds() {
        good("friend 2 has 0;friend 2 has 3;", "friend 2 has 3;");
        good("friend 2 has 0 3;friend 1 has 2;friend 2 has;", "friend 1 has 2;");
        good("broken 0;broken 1 2;", "broken 1 2;");
        good("broken 0;broken;", "");
        good("retries 3;retries 1;", "retries 1;");
        good("retries 3;retries 0;", "");
        good("cost bind 1;cost pin 2;cost bind 3;", "cost bind 3;cost pin 2;");
        good("cost forbid 0 1;cost forbid 1 2;cost forbid 0 10;", "cost forbid 1 2;");
        good("mend pin;mend pin;forbid 1;forbid 1;must 1 0;must 0 1;", "mend pin;forbid 1;must 0 1;");
    }

    // "the first byte of the first token (or byte that begins none) with which no such text goes on"
    private static void bytesThatBeginNoToken() {
        for (int letter = 0; letter < 256; letter++) {
            char c = (char) letter;
            boolean blank = c == ' ' || c == '\n';
            boolean inWord = c >= 'a' && c <= 'z';
            boolean inNumber = c >= '0' && c <= '9';
            boolean isWay = c >= '0' && c <= '3';
            asDue("broken 1 " + c + " 2;", blank || isWay ? -1 : c == ';' ? 11 : 9);
            asDue("broken 1" + c + ";", blank ? -1 : inNumber ? 7 : c == ';' ? 9 : 8);
            asDue("broken" + c + ";", blank || isWay ? -1 : inWord ? 0 : c == ';' ? 7 : 6);
            asDue("bro" + c + "ken;", 0);
            asDue("broken;" + c, blank ? -1 : 7);
        }
    }

    private static void asDue(String text, int place) {
        TalkDown x = new TalkDown();
        DUE.is("tells \"" + text + "\"", Tapes.tell(x, text), place < 0 ? 1 : -1);
        DUE.is("fault of \"" + text + "\"", x.fault(), place);
    }

    // "the text's length, if more must come"
    private static void moreMustCome() {
        for (String statement : STATEMENTS) {
            String[] tokens = statement.replace(";", " ;").split(" ");
            StringBuilder text = new StringBuilder("broken 1;");
            for (int i = 0; i < tokens.length - 1; i++) {
                text.append(i == 0 ? "" : " ").append(tokens[i]);
                bad(text.toString(), text.length());
                bad(text + " ", text.length() + 1);
                bad(text + "\n \n", text.length() + 3);
                bad(text + " ".repeat(600 - text.length()), 600);
            }
        }
    }

    private static void firstFaultCounts() {
        bad("retries 4;retries 5;", 8);
        bad("retries 4 # x", 8);
        bad("friend 9 has 9", 7);
        bad("# retries 4;", 0);
        bad("mend friend", 5);
        bad("broken 1;retries 4;" + "broken;".repeat(40), 17);
        bad("broken;".repeat(40) + "retries 4;", 224);
    }

    /** All rows of up to four tokens, by the pattern of Grammar. */
    private static void rowsOfTokens() {
        for (String first : TOKENS) {
            asGrammar(first);
            for (String second : TOKENS) {
                asGrammar(first + " " + second);
                for (String third : TOKENS) {
                    asGrammar(first + " " + second + " " + third);
                    for (String fourth : TOKENS) {
                        asGrammar(first + " " + second + " " + third + " " + fourth);
                    }
                }
            }
        }
    }

    /** Good texts with a few tokens, bytes or statements spoilt. */
    private static void spoiltTexts() {
        Random random = new Random(21);
        for (int round = 0; round < 20000; round++) {
            StringBuilder text = new StringBuilder();
            for (int many = random.nextInt(40); many > 0; many--) {
                text.append(STATEMENTS[random.nextInt(STATEMENTS.length)]).append(random.nextInt(5) == 0 ? "\n" : "");
            }
            text.setLength(Math.min(560, text.length()));
            for (int many = random.nextInt(3); many > 0; many--) {
                String token = TOKENS[random.nextInt(TOKENS.length)];
                int from = random.nextInt(text.length() + 1);
                int to = Math.min(text.length(), from + random.nextInt(4));
                text.replace(from, to, random.nextBoolean() ? " " + token + " " : token);
            }
            asGrammar(text.toString());
        }
    }

    private static void asGrammar(String text) {
        Grammar grammar = new Grammar(text);
        TalkDown x = new TalkDown();
        DUE.is("tells \"" + text + "\"", Tapes.tell(x, text), grammar.answer());
        DUE.is("fault of \"" + text + "\"", x.fault(), grammar.fault());
        if (grammar.answer() > 0) {
            DUE.is("written of \"" + text + "\"", Tapes.written(x), Tapes.written(grammar.byCalls()));
        }
    }

    // "friends by numbers (those with WAYS)"; "one blank ahead of each word or number but a statement's first, none elsewhere"
    private static void writtenFriends() {
        for (int friend = 0; friend < 5; friend++) {
            for (int set = 0; set < 16; set++) {
                TalkDown x = new TalkDown();
                x.ways(friend, set);
                StringBuilder want = new StringBuilder("friend " + friend + " has");
                for (int way = 0; way < 4; way++) {
                    want.append((set >> way & 1) == 0 ? "" : " " + way);
                }
                DUE.is("friend with " + set, Tapes.written(x), set == 0 ? "" : want.append(";").toString());
                x.ways(friend, 0);
                DUE.is("the friend without WAYS", Tapes.written(x), "");
            }
        }
        Made made = Made.fresh().and(x -> x.ways(4, 1)).and(x -> x.ways(2, 2)).and(x -> x.ways(0, 4)).and(x -> x.ways(3, 0));
        DUE.is("by numbers", made.written(), "friend 0 has 2;friend 2 has 1;friend 4 has 0;");
        DUE.is("with all WAYS FORBIDDEN", made.and(x -> x.mend(4, true)).written(),
            "friend 0 has 2;friend 2 has 1;friend 4 has 0;forbid 1;");
    }

    // "broken (if any is), retries (above 0)"
    private static void writtenBrokenAndRetries() {
        DUE.is("none broken", Made.fresh().and(x -> x.broken(0)).written(), "");
        DUE.is("the least broken", Made.fresh().and(x -> x.broken(1)).written(), "broken 0;");
        DUE.is("the best broken", Made.fresh().and(x -> x.broken(8)).written(), "broken 3;");
        DUE.is("all broken", Made.fresh().and(x -> x.broken(15)).written(), "broken 0 1 2 3;");
        DUE.is("none broken again", Made.told("broken 2;").and(x -> x.broken(0)).written(), "");
        DUE.is("retries 0", Made.fresh().and(x -> x.retries(0)).written(), "");
        DUE.is("retries 1", Made.fresh().and(x -> x.retries(1)).written(), "retries 1;");
        DUE.is("retries 3", Made.fresh().and(x -> x.retries(3)).written(), "retries 3;");
        DUE.is("retries 0 again", Made.told("retries 2;").and(x -> x.retries(0)).written(), "");
        DUE.is("both", Made.told("retries 2;broken 1;friend 3 has 0;").written(), "friend 3 has 0;broken 1;retries 2;");
    }

    // "mends that are on, then WAYS FORBIDDEN"
    private static void writtenMends() {
        String[] written = {"mend bind;", "mend mark;", "mend pin;", "forbid 0;", "forbid 1;", "forbid 2;", "forbid 3;"};
        Made rising = Made.fresh();
        Made falling = Made.fresh();
        for (int mend = 0; mend < 7; mend++) {
            int which = mend;
            Made on = Made.fresh().and(x -> x.mend(which, true));
            DUE.is("on", on.written(), written[mend]);
            DUE.is("off", on.and(x -> x.mend(which, false)).written(), "");
            rising = rising.and(x -> x.mend(which, true));
            falling = falling.and(x -> x.mend(6 - which, true));
        }
        DUE.is("all on", rising.written(), String.join("", written));
        DUE.is("all on, the last first", falling.written(), String.join("", written));
        DUE.is("ahead of costs", Made.told("must 0 1;cost bind 1;forbid 0;mend pin;retries 1;").written(),
            "retries 1;mend pin;forbid 0;cost bind 1;must 0 1;");
    }

    // "costs unlike 10 (in the order of MENDS)"
    private static void writtenCosts() {
        String[] names = {"bind", "mark", "pin", "forbid 0", "forbid 1", "forbid 2", "forbid 3"};
        Made made = Made.fresh();
        StringBuilder all = new StringBuilder();
        for (int mend = 0; mend < 7; mend++) {
            for (int coins = 0; coins <= 100; coins++) {
                TalkDown x = new TalkDown();
                x.cost(mend, coins);
                DUE.is("cost of " + coins, Tapes.written(x), coins == 10 ? "" : "cost " + names[mend] + " " + coins + ";");
            }
            int which = 6 - mend;
            made = made.and(x -> x.cost(which, 2 * which));
            all.append(mend == 5 ? "" : "cost " + names[mend] + " " + 2 * mend + ";");
        }
        DUE.is("in the order of MENDS", made.written(), all.toString());
        DUE.is("10 again", Made.told("cost pin 9;").and(x -> x.cost(2, 10)).written(), "");
        DUE.is("of a MEND that is on", Made.told("mend pin;cost pin 9;").written(), "mend pin;cost pin 9;");
    }

    // "pairs that MUST talk (the lesser first, rising)"
    private static void writtenMusts() {
        Made rising = Made.fresh();
        Made falling = Made.fresh();
        StringBuilder all = new StringBuilder();
        for (int a = 0; a < 5; a++) {
            for (int b = a + 1; b < 5; b++) {
                int one = a;
                int other = b;
                all.append("must ").append(a).append(" ").append(b).append(";");
                rising = rising.and(x -> x.must(one, other, true));
                falling = falling.and(x -> x.must(4 - one, 4 - other, true));
                Made pair = Made.fresh().and(x -> x.must(other, one, true));
                DUE.is("the lesser first", pair.written(), "must " + a + " " + b + ";");
                DUE.is("needn't", pair.and(x -> x.must(one, other, false)).written(), "");
            }
        }
        DUE.is("all pairs", rising.written(), all.toString());
        DUE.is("all pairs, the last first", falling.written(), all.toString());
    }

    private StatementEdgeTest() {
    }
}
