/** A judge of how friends agree on a way to speak while a stranger between them drops and changes letters. */
public final class TalkDown {
    /** There is none. */
    public static final int NONE = -1;

    private static final int NOT_ON_TAPE = -2;
    private static final int FRIENDS = 5;
    private static final int ALL_FRIENDS = 31;
    private static final int WAYS = 4;
    private static final int ALL_WAYS = 15;
    private static final int MOST_TRIES = 3;
    private static final int MENDS = 7;
    private static final int MEND_SETS = 128;
    private static final int BIND = 1;
    private static final int MARK = 2;
    private static final int PIN = 4;
    private static final int FIRST_FORBID = 3;
    private static final int USUAL_COST = 10;
    private static final int MOST_COST = 100;
    private static final int TAPE_ROOM = 600;
    private static final int MOST_STATEMENTS = 32;
    private static final int DROP = 0;
    private static final int CHANGE_OFFER = 1;
    private static final int CHANGE_PICK = 2;
    private static final int FORGE = 3;

    private final Told told;
    private final Told draft;
    private final Tape tape;
    private final Reader reader;
    private final Writer writer;
    private final Judge judge;
    private final Mender mender;
    private int faultPlace;

    public TalkDown() {
        told = new Told();
        draft = new Told();
        tape = new Tape();
        reader = new Reader(tape, draft);
        writer = new Writer(told);
        judge = new Judge(told);
        mender = new Mender(told, judge);
        faultPlace = NONE;
    }

    public int feed(int a, int b, int c, int d, int e) {
        if (!tape.hasSpace()) {
            return NONE;
        }
        tape.append(a);
        tape.append(b);
        tape.append(c);
        tape.append(d);
        tape.append(e);
        return tape.size();
    }

    public int tells(int n) {
        if (n < 0 || n > tape.size()) {
            return NOT_ON_TAPE;
        }
        tape.cutTo(n);
        int statements = reader.readText();
        faultPlace = reader.faultFound();
        tape.cutTo(0);
        if (statements != NONE) {
            told.copyFrom(draft);
        }
        return statements;
    }

    public int fault() {
        return faultPlace;
    }

    public int text(int i) {
        int length = writer.writeAll(i);
        return i == NONE ? length : writer.letterFound();
    }

    public boolean ways(int friend, int set) {
        if (!isFriend(friend) || !isWaySet(set)) {
            return false;
        }
        told.giveWays(friend, set);
        return true;
    }

    public boolean broken(int set) {
        if (!isWaySet(set)) {
            return false;
        }
        told.breakWays(set);
        return true;
    }

    public boolean retries(int many) {
        if (many < 0 || many > MOST_TRIES) {
            return false;
        }
        told.allowTries(many);
        return true;
    }

    public boolean mend(int mend, boolean on) {
        if (!isMend(mend) || told.isOn(mend) == on) {
            return false;
        }
        told.switchMend(mend, on);
        return true;
    }

    public boolean cost(int mend, int coins) {
        if (!isMend(mend) || coins < 0 || coins > MOST_COST) {
            return false;
        }
        told.priceMend(mend, coins);
        return true;
    }

    public int best(int a, int b) {
        if (!areUnlikeFriends(a, b)) {
            return NONE;
        }
        return told.bestUnder(told.mendsOn(), a, b);
    }

    public int meet(int a, int b) {
        if (!areUnlikeFriends(a, b)) {
            return NONE;
        }
        int way = told.bestUnder(told.mendsOn(), a, b);
        boolean pinned = (told.mendsOn() & PIN) != 0;
        if (way == NONE || (pinned && way < told.memory(a, b))) {
            return NONE;
        }
        told.keepMeeting(a, b, way);
        told.keepMeeting(b, a, way);
        return way;
    }

    public int remembers(int a, int b) {
        if (!areUnlikeFriends(a, b)) {
            return NONE;
        }
        return told.memory(a, b);
    }

    public int fall(int a, int b, int way) {
        if (!areUnlikeFriends(a, b) || !isWay(way)) {
            return NONE;
        }
        judge.seat(a, b, told.mendsOn());
        judge.search(way);
        return judge.actsFound();
    }

    public int apart(int a, int b) {
        if (!areUnlikeFriends(a, b)) {
            return NONE;
        }
        judge.seat(a, b, told.mendsOn());
        judge.search(NONE);
        return judge.actsFound();
    }

    public int row(int a, int b, int way, int k, int what) {
        if (!areUnlikeFriends(a, b) || (way != NONE && !isWay(way))) {
            return NONE;
        }
        judge.seat(a, b, told.mendsOn());
        if (!judge.search(way) || k < 0 || k >= judge.actsFound()) {
            return NONE;
        }
        if (what == 0) {
            return judge.kindOfAct(k);
        }
        return what == 1 ? judge.detailOfAct(k) : NONE;
    }

    public int safe(int a, int b) {
        if (!areUnlikeFriends(a, b)) {
            return NONE;
        }
        judge.seat(a, b, told.mendsOn());
        return judge.isSafe() ? 1 : 0;
    }

    public int lowest(int a, int b) {
        if (!areUnlikeFriends(a, b)) {
            return NONE;
        }
        judge.seat(a, b, told.mendsOn());
        return judge.lowestFall();
    }

    public int room(int set, int k) {
        if (!isFriendSet(set) || k < NONE) {
            return NONE;
        }
        int unsafe = 0;
        for (int pair = 0; pair < FRIENDS * FRIENDS; pair++) {
            if (!isPairOfRoom(set, pair)) {
                continue;
            }
            judge.seat(pair / FRIENDS, pair % FRIENDS, told.mendsOn());
            if (judge.isSafe()) {
                continue;
            }
            if (unsafe == k) {
                return pair;
            }
            unsafe++;
        }
        return k == NONE ? unsafe : NONE;
    }

    public boolean must(int a, int b, boolean is) {
        if (!areUnlikeFriends(a, b) || told.mustTalk(a, b) == is) {
            return false;
        }
        told.demandTalk(a, b, is);
        return true;
    }

    public int cheapest(int set, int what) {
        if (!isFriendSet(set) || what < 0 || what > 2 || !mender.searchFor(set)) {
            return NONE;
        }
        if (what == 0) {
            return mender.priceFound();
        }
        return what == 1 ? mender.setFound() : Integer.bitCount(mender.setFound());
    }

    private static boolean isFriend(int friend) {
        return friend >= 0 && friend < FRIENDS;
    }

    private static boolean areUnlikeFriends(int a, int b) {
        return isFriend(a) && isFriend(b) && a != b;
    }

    private static boolean isFriendSet(int set) {
        return set >= 0 && set <= ALL_FRIENDS;
    }

    private static boolean isWay(int way) {
        return way >= 0 && way < WAYS;
    }

    private static boolean isWaySet(int set) {
        return set >= 0 && set <= ALL_WAYS;
    }

    private static boolean isMend(int mend) {
        return mend >= 0 && mend < MENDS;
    }

    private static boolean holds(int set, int member) {
        return (set >> member & 1) != 0;
    }

    private static boolean isPairOfRoom(int set, int pair) {
        int a = pair / FRIENDS;
        int b = pair % FRIENDS;
        return a != b && holds(set, a) && holds(set, b);
    }

    private static int greatestOf(int set) {
        for (int way = WAYS - 1; way >= 0; way--) {
            if ((set >> way & 1) != 0) {
                return way;
            }
        }
        return NONE;
    }

    /** All that has been told, and what the friends remember. */
    private static final class Told {
        private final int[] given;
        private final int[] prices;
        private final int[] memories;
        private int brokenWays;
        private int triesAllowed;
        private int mends;
        private int talkers;

        Told() {
            given = new int[FRIENDS];
            prices = new int[MENDS];
            memories = new int[FRIENDS * FRIENDS];
            setAsAtFirst();
        }

        void setAsAtFirst() {
            for (int friend = 0; friend < FRIENDS; friend++) {
                given[friend] = 0;
            }
            for (int mend = 0; mend < MENDS; mend++) {
                prices[mend] = USUAL_COST;
            }
            for (int pair = 0; pair < FRIENDS * FRIENDS; pair++) {
                memories[pair] = NONE;
            }
            brokenWays = 0;
            triesAllowed = 0;
            mends = 0;
            talkers = 0;
        }

        void copyFrom(Told other) {
            System.arraycopy(other.given, 0, given, 0, FRIENDS);
            System.arraycopy(other.prices, 0, prices, 0, MENDS);
            System.arraycopy(other.memories, 0, memories, 0, FRIENDS * FRIENDS);
            brokenWays = other.brokenWays;
            triesAllowed = other.triesAllowed;
            mends = other.mends;
            talkers = other.talkers;
        }

        void giveWays(int friend, int set) {
            given[friend] = set;
        }

        /** The WAYS as told: a FORBIDDEN one is kept here, so that it comes back when its MEND goes off. */
        int waysGiven(int friend) {
            return given[friend];
        }

        int waysUnder(int mendSet, int friend) {
            return given[friend] & ~(mendSet >> FIRST_FORBID);
        }

        int bestUnder(int mendSet, int a, int b) {
            return greatestOf(waysUnder(mendSet, a) & waysUnder(mendSet, b));
        }

        void breakWays(int set) {
            brokenWays = set;
        }

        int waysBroken() {
            return brokenWays;
        }

        void allowTries(int many) {
            triesAllowed = many;
        }

        int triesAllowed() {
            return triesAllowed;
        }

        void switchMend(int mend, boolean on) {
            mends = on ? mends | 1 << mend : mends & ~(1 << mend);
        }

        boolean isOn(int mend) {
            return holds(mends, mend);
        }

        int mendsOn() {
            return mends;
        }

        void priceMend(int mend, int coins) {
            prices[mend] = coins;
        }

        int priceOf(int mend) {
            return prices[mend];
        }

        void demandTalk(int a, int b, boolean is) {
            int bit = 1 << pairNumber(Math.min(a, b), Math.max(a, b));
            talkers = is ? talkers | bit : talkers & ~bit;
        }

        boolean mustTalk(int a, int b) {
            return holds(talkers, pairNumber(Math.min(a, b), Math.max(a, b)));
        }

        void keepMeeting(int a, int b, int way) {
            int pair = pairNumber(a, b);
            memories[pair] = Math.max(memories[pair], way);
        }

        int memory(int a, int b) {
            return memories[pairNumber(a, b)];
        }

        private static int pairNumber(int a, int b) {
            return FRIENDS * a + b;
        }
    }

    /** The bytes that have come and have not told anything yet. */
    private static final class Tape {
        private static final int BYTES_FED = 20;

        private final int[] bytes;
        private int count;

        Tape() {
            bytes = new int[TAPE_ROOM];
        }

        boolean hasSpace() {
            return count + BYTES_FED <= TAPE_ROOM;
        }

        void append(int number) {
            for (int shift = 24; shift >= 0 && count < TAPE_ROOM; shift -= 8) {
                bytes[count] = number >> shift & 255;
                count++;
            }
        }

        int size() {
            return count;
        }

        void cutTo(int first) {
            count = Math.max(0, Math.min(first, count));
        }

        int at(int place) {
            return place >= 0 && place < count ? bytes[place] : NONE;
        }
    }

    /**
     * Reads the text on the tape. A method that answers false leaves the token with which no text goes on
     * as the one in hand; what it has told by then does not matter, as a draft with a FAULT is not used.
     */
    private static final class Reader {
        private static final int END = 0;
        private static final int WORD = 1;
        private static final int NUMBER = 2;
        private static final int SEMICOLON = 3;
        private static final int BLANK = 4;
        private static final int STRANGE = 5;
        private static final int MOST_DIGITS = 3;

        private final Tape tape;
        private final Told into;
        private int start;
        private int next;
        private int kind;
        private int value;
        private int faultAt;

        Reader(Tape tape, Told into) {
            this.tape = tape;
            this.into = into;
            faultAt = NONE;
        }

        int faultFound() {
            return faultAt;
        }

        int readText() {
            into.setAsAtFirst();
            next = 0;
            faultAt = NONE;
            advance();
            for (int statements = 0; statements <= MOST_STATEMENTS; statements++) {
                if (kind == END) {
                    return statements;
                }
                if (statements == MOST_STATEMENTS || !readStatement()) {
                    break;
                }
            }
            faultAt = start;
            return NONE;
        }

        private boolean readStatement() {
            if (isWord("friend")) {
                return readFriend();
            }
            if (isWord("broken")) {
                advance();
                into.breakWays(readWays());
                return endsStatement();
            }
            if (isWord("retries")) {
                return readRetries();
            }
            if (isWord("mend")) {
                return readMend();
            }
            if (isWord("forbid")) {
                return readForbid();
            }
            if (isWord("cost")) {
                return readCost();
            }
            return isWord("must") && readMust();
        }

        private boolean readFriend() {
            advance();
            if (!isNumberUpTo(FRIENDS - 1)) {
                return false;
            }
            int friend = value;
            advance();
            if (!isWord("has")) {
                return false;
            }
            advance();
            into.giveWays(friend, readWays());
            return endsStatement();
        }

        private int readWays() {
            int set = 0;
            for (int read = 0; read < TAPE_ROOM && isNumberUpTo(WAYS - 1); read++) {
                set |= 1 << value;
                advance();
            }
            return set;
        }

        private boolean readRetries() {
            advance();
            if (!isNumberUpTo(MOST_TRIES)) {
                return false;
            }
            into.allowTries(value);
            advance();
            return endsStatement();
        }

        private boolean readMend() {
            advance();
            int mend = mendNamed();
            if (mend == NONE) {
                return false;
            }
            into.switchMend(mend, true);
            advance();
            return endsStatement();
        }

        private boolean readForbid() {
            advance();
            if (!isNumberUpTo(WAYS - 1)) {
                return false;
            }
            into.switchMend(FIRST_FORBID + value, true);
            advance();
            return endsStatement();
        }

        private boolean readCost() {
            advance();
            int mend = mendNamed();
            if (isWord("forbid")) {
                advance();
                mend = isNumberUpTo(WAYS - 1) ? FIRST_FORBID + value : NONE;
            }
            if (mend == NONE) {
                return false;
            }
            advance();
            if (!isNumberUpTo(MOST_COST)) {
                return false;
            }
            into.priceMend(mend, value);
            advance();
            return endsStatement();
        }

        private boolean readMust() {
            advance();
            if (!isNumberUpTo(FRIENDS - 1)) {
                return false;
            }
            int friend = value;
            advance();
            if (!isNumberUpTo(FRIENDS - 1) || value == friend) {
                return false;
            }
            into.demandTalk(friend, value, true);
            advance();
            return endsStatement();
        }

        private boolean endsStatement() {
            if (kind != SEMICOLON) {
                return false;
            }
            advance();
            return true;
        }

        private int mendNamed() {
            if (isWord("bind")) {
                return 0;
            }
            if (isWord("mark")) {
                return 1;
            }
            return isWord("pin") ? 2 : NONE;
        }

        private boolean isWord(String word) {
            if (kind != WORD || next - start != word.length()) {
                return false;
            }
            for (int i = 0; i < word.length(); i++) {
                if (tape.at(start + i) != word.charAt(i)) {
                    return false;
                }
            }
            return true;
        }

        private boolean isNumberUpTo(int bound) {
            return kind == NUMBER && next - start <= MOST_DIGITS && value <= bound;
        }

        private void advance() {
            start = next;
            while (start < tape.size() && kindOf(tape.at(start)) == BLANK) {
                start++;
            }
            kind = kindOf(tape.at(start));
            next = kind == END ? start : start + 1;
            if (kind == WORD || kind == NUMBER) {
                while (next < tape.size() && kindOf(tape.at(next)) == kind) {
                    next++;
                }
            }
            value = 0;
            // longer numbers are refused by their length, so their value is not needed
            for (int i = start; kind == NUMBER && i < next && i < start + MOST_DIGITS; i++) {
                value = 10 * value + tape.at(i) - '0';
            }
        }

        private static int kindOf(int letter) {
            if (letter == NONE) {
                return END;
            }
            if (letter >= 'a' && letter <= 'z') {
                return WORD;
            }
            if (letter >= '0' && letter <= '9') {
                return NUMBER;
            }
            if (letter == ';') {
                return SEMICOLON;
            }
            return letter == ' ' || letter == '\n' ? BLANK : STRANGE;
        }
    }

    /** Writes all that has been told as a text that tells it again; keeps one letter of it, so it needs no row. */
    private static final class Writer {
        private final Told told;
        private int count;
        private int placeWanted;
        private int letterKept;

        Writer(Told told) {
            this.told = told;
            letterKept = NONE;
        }

        int letterFound() {
            return letterKept;
        }

        int writeAll(int place) {
            count = 0;
            placeWanted = place;
            letterKept = NONE;
            writeFriends();
            if (told.waysBroken() != 0) {
                put("broken");
                putWays(told.waysBroken());
                putByte(';');
            }
            if (told.triesAllowed() > 0) {
                put("retries");
                putNumber(told.triesAllowed());
                putByte(';');
            }
            writeMends();
            writeCosts();
            writeMusts();
            return count;
        }

        private void writeFriends() {
            for (int friend = 0; friend < FRIENDS; friend++) {
                if (told.waysGiven(friend) != 0) {
                    put("friend");
                    putNumber(friend);
                    put(" has");
                    putWays(told.waysGiven(friend));
                    putByte(';');
                }
            }
        }

        private void writeMends() {
            for (int mend = 0; mend < MENDS; mend++) {
                if (told.isOn(mend)) {
                    // a FORBIDDEN WAY's statement has no word ahead of its name
                    put(mend < FIRST_FORBID ? "mend " : "");
                    putMendName(mend);
                    putByte(';');
                }
            }
        }

        private void writeCosts() {
            for (int mend = 0; mend < MENDS; mend++) {
                if (told.priceOf(mend) != USUAL_COST) {
                    put("cost ");
                    putMendName(mend);
                    putNumber(told.priceOf(mend));
                    putByte(';');
                }
            }
        }

        private void writeMusts() {
            for (int a = 0; a < FRIENDS; a++) {
                for (int b = a + 1; b < FRIENDS; b++) {
                    if (told.mustTalk(a, b)) {
                        put("must");
                        putNumber(a);
                        putNumber(b);
                        putByte(';');
                    }
                }
            }
        }

        private void putMendName(int mend) {
            switch (mend) {
                case 0:
                    put("bind");
                    break;
                case 1:
                    put("mark");
                    break;
                case 2:
                    put("pin");
                    break;
                default:
                    put("forbid");
                    putNumber(mend - FIRST_FORBID);
                    break;
            }
        }

        private void putWays(int set) {
            for (int way = 0; way < WAYS; way++) {
                if (holds(set, way)) {
                    putNumber(way);
                }
            }
        }

        private void putNumber(int number) {
            putByte(' ');
            if (number >= 100) {
                putByte('0' + number / 100 % 10);
            }
            if (number >= 10) {
                putByte('0' + number / 10 % 10);
            }
            putByte('0' + number % 10);
        }

        private void put(String letters) {
            for (int i = 0; i < letters.length(); i++) {
                putByte(letters.charAt(i));
            }
        }

        private void putByte(int letter) {
            if (count == placeWanted) {
                letterKept = letter;
            }
            count++;
        }
    }

    /** Judges what the stranger can do to one FRIEND talking to another; keeps the row of acts that it found. */
    private static final class Judge {
        private final Told told;
        private int mendsJudged;
        private int waysBroken;
        private int talkerWays;
        private int hearerWays;
        private int leastTaken;
        private int offered;
        private boolean marked;
        private int acts;
        private int drops;
        private int cameChanged;
        private int pickChanged;

        Judge(Told told) {
            this.told = told;
            acts = NONE;
        }

        void seat(int a, int b, int mendSet) {
            mendsJudged = mendSet;
            waysBroken = told.waysBroken();
            talkerWays = told.waysUnder(mendSet, a);
            hearerWays = told.waysUnder(mendSet, b);
            leastTaken = (mendSet & PIN) != 0 ? told.memory(a, b) : NONE;
        }

        boolean isSafe() {
            int bestWay = greatestOf(talkerWays & hearerWays);
            boolean threatened = search(NONE);
            for (int way = 0; way < bestWay && !threatened; way++) {
                threatened = search(way);
            }
            return !threatened;
        }

        int lowestFall() {
            int bestWay = greatestOf(talkerWays & hearerWays);
            for (int way = 0; way < bestWay; way++) {
                if (search(way)) {
                    return way;
                }
            }
            return NONE;
        }

        /**
         * Looks for the row of FALL to a WAY, or of APART (goal NONE). The rows are weighed in the order in
         * which they count, so the first of as few acts is the one.
         */
        boolean search(int goal) {
            acts = NONE;
            offered = talkerWays;
            for (int dropped = 0; dropped <= told.triesAllowed(); dropped++) {
                marked = dropped > 0 && (mendsJudged & MARK) != 0;
                weighPick(dropped, NONE, pickOfOffer(), goal);
                // of all CHANGED offers only a WAY alone, unmarked, can count: b picks it from no lesser set,
                // and a mark only makes b stop more often
                for (int pick = 0; pick < WAYS; pick++) {
                    if (holds(hearerWays, pick) && (marked || offered != 1 << pick)) {
                        weighPick(dropped, 1 << pick, pick, goal);
                    }
                }
                if (Integer.bitCount(offered) < 2) {
                    // later TRIES offer the same, at most marked: they only add DROPS
                    break;
                }
                offered &= ~(1 << greatestOf(offered));
            }
            return acts != NONE;
        }

        private int pickOfOffer() {
            if (marked && greatestOf(hearerWays) > greatestOf(offered)) {
                return NONE;
            }
            return greatestOf(offered & hearerWays);
        }

        private void weighPick(int dropped, int came, int pick, int goal) {
            if (pick == NONE) {
                return;
            }
            for (int taken = 0; taken < WAYS; taken++) {
                boolean isGoal = goal == NONE ? taken != pick : taken == pick && taken == goal;
                if (isGoal && holds(offered, taken) && taken >= leastTaken) {
                    weighRow(dropped, came, pick, taken);
                }
            }
        }

        private void weighRow(int dropped, int came, int pick, int taken) {
            int changes = (came == NONE ? 0 : 1) + (taken == pick ? 0 : 1);
            int forged = changes > 0 && (mendsJudged & BIND) != 0 ? 1 : 0;
            boolean canForge = (waysBroken >> pick & waysBroken >> taken & 1) != 0;
            if (forged > 0 && !canForge) {
                return;
            }
            int needed = dropped + changes + forged;
            if (acts == NONE || needed < acts) {
                acts = needed;
                drops = dropped;
                cameChanged = came;
                pickChanged = taken == pick ? NONE : taken;
            }
        }

        int actsFound() {
            return acts;
        }

        int kindOfAct(int k) {
            if (k < drops) {
                return DROP;
            }
            int later = k - drops;
            if (cameChanged != NONE) {
                if (later == 0) {
                    return CHANGE_OFFER;
                }
                later--;
            }
            return later == 0 && pickChanged != NONE ? CHANGE_PICK : FORGE;
        }

        int detailOfAct(int k) {
            switch (kindOfAct(k)) {
                case CHANGE_OFFER:
                    return cameChanged;
                case CHANGE_PICK:
                    return pickChanged;
                default:
                    return 0;
            }
        }
    }

    /** Looks for the MENDS of least cost of a ROOM. */
    private static final class Mender {
        private final Told told;
        private final Judge judge;
        private int bestSet;
        private int bestPrice;

        Mender(Told told, Judge judge) {
            this.told = told;
            this.judge = judge;
            bestSet = NONE;
        }

        int setFound() {
            return bestSet;
        }

        int priceFound() {
            return bestPrice;
        }

        boolean searchFor(int room) {
            bestSet = NONE;
            for (int more = 0; more < MEND_SETS; more++) {
                if ((more & told.mendsOn()) != 0 || !isCheaper(more)) {
                    continue;
                }
                int mendSet = more | told.mendsOn();
                if (letsTalk(mendSet) && makesSafe(mendSet, room)) {
                    bestSet = more;
                    bestPrice = priceOfAll(more);
                }
            }
            return bestSet != NONE;
        }

        /** The sets come as rising numbers, so one that is only as good as the one found is not taken. */
        private boolean isCheaper(int more) {
            if (bestSet == NONE) {
                return true;
            }
            int price = priceOfAll(more);
            boolean fewer = Integer.bitCount(more) < Integer.bitCount(bestSet);
            return price < bestPrice || (price == bestPrice && fewer);
        }

        private int priceOfAll(int set) {
            int sum = 0;
            for (int mend = 0; mend < MENDS; mend++) {
                if (holds(set, mend)) {
                    sum += told.priceOf(mend);
                }
            }
            return sum;
        }

        private boolean letsTalk(int mendSet) {
            for (int a = 0; a < FRIENDS; a++) {
                for (int b = a + 1; b < FRIENDS; b++) {
                    if (told.mustTalk(a, b) && told.bestUnder(mendSet, a, b) == NONE) {
                        return false;
                    }
                }
            }
            return true;
        }

        private boolean makesSafe(int mendSet, int room) {
            for (int pair = 0; pair < FRIENDS * FRIENDS; pair++) {
                if (!isPairOfRoom(room, pair)) {
                    continue;
                }
                judge.seat(pair / FRIENDS, pair % FRIENDS, mendSet);
                if (!judge.isSafe()) {
                    return false;
                }
            }
            return true;
        }
    }
}
