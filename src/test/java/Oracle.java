import java.util.ArrayList;
import java.util.List;

/**
 * The talk of two friends played out word by word for everything that the stranger may do, without any of the
 * short cuts of the class: the least row is found by comparing all rows.
 */
final class Oracle {
    private static final int NONE = TalkDown.NONE;

    /** What the stranger does: DROPS, what comes instead of the offer (set + 16 if marked), the pick's change, FORGE. */
    record Row(int drops, int came, int pickTo, boolean forges, int taken) {
        int acts() {
            return drops + (came == NONE ? 0 : 1) + (pickTo == NONE ? 0 : 1) + (forges ? 1 : 0);
        }

        boolean isAheadOf(Row other) {
            int[] mine = key();
            int[] theirs = other.key();
            for (int i = 0; i < mine.length; i++) {
                if (mine[i] != theirs[i]) {
                    return mine[i] < theirs[i];
                }
            }
            return false;
        }

        private int[] key() {
            int offer = came == NONE ? NONE : (came & 15) * 2 + (came >> 4);
            return new int[] {acts(), drops, offer, taken};
        }

        /** Rows of kind and detail of each act, in the order in which the stranger does them. */
        List<int[]> asActs() {
            List<int[]> all = new ArrayList<>();
            for (int i = 0; i < drops; i++) {
                all.add(new int[] {0, 0});
            }
            if (came != NONE) {
                all.add(new int[] {1, came});
            }
            if (pickTo != NONE) {
                all.add(new int[] {2, pickTo});
            }
            if (forges) {
                all.add(new int[] {3, 0});
            }
            return all;
        }
    }

    private final int talker;
    private final int hearer;
    private final int broken;
    private final int retries;
    private final boolean bind;
    private final boolean mark;
    private final int pinned;
    /** The least rows: of FALL to each WAY, then of APART; null where there is none. */
    private final Row[] least = new Row[5];

    Oracle(int talker, int hearer, int broken, int retries, int mends, int remembered) {
        this.talker = talker;
        this.hearer = hearer;
        this.broken = broken;
        this.retries = retries;
        bind = (mends & 1) != 0;
        mark = (mends & 2) != 0;
        pinned = (mends & 4) != 0 ? remembered : NONE;
        playAll();
    }

    /** The least row of FALL to a WAY or of APART (NONE), or null. */
    Row row(int goal) {
        return least[goal == NONE ? 4 : goal];
    }

    int acts(int goal) {
        return row(goal) == null ? NONE : row(goal).acts();
    }

    int best() {
        return greatest(talker & hearer);
    }

    int lowest() {
        for (int way = 0; way < best(); way++) {
            if (row(way) != null) {
                return way;
            }
        }
        return NONE;
    }

    boolean safe() {
        return lowest() == NONE && row(NONE) == null;
    }

    private void playAll() {
        for (int drops = 0; drops <= retries; drops++) {
            for (int came = NONE; came < 32; came++) {
                if (came == NONE || (came & 15) != 0) {
                    playPicks(drops, came);
                }
            }
        }
    }

    private void playPicks(int drops, int came) {
        for (int pickTo = NONE; pickTo < 4; pickTo++) {
            play(drops, came, pickTo, false);
            play(drops, came, pickTo, true);
        }
    }

    private void play(int drops, int came, int pickTo, boolean forges) {
        int offer = talker;
        for (int i = 0; i < drops; i++) {
            int rest = offer & ~Integer.highestOneBit(offer);
            offer = rest == 0 ? offer : rest;
        }
        int sent = offer | (mark && drops > 0 ? 16 : 0);
        int heard = came == NONE ? sent : came;
        boolean marked = heard >= 16;
        int set = heard & 15;
        if (marked && greatest(hearer) > greatest(set)) {
            return;
        }
        int pick = greatest(set & hearer);
        if (pick == NONE || pickTo == pick) {
            return;
        }
        int taken = pickTo == NONE ? pick : pickTo;
        if ((offer >> taken & 1) == 0 || taken < pinned) {
            return;
        }
        boolean canForge = bind && (broken >> pick & 1) != 0 && (broken >> taken & 1) != 0;
        if (forges && !canForge) {
            return;
        }
        if (bind && !forges && (heard != sent || pick != taken)) {
            return;
        }
        keep(pick == taken ? pick : 4, new Row(drops, came, pickTo, forges, taken));
    }

    private void keep(int goal, Row row) {
        if (least[goal] == null || row.isAheadOf(least[goal])) {
            least[goal] = row;
        }
    }

    private static int greatest(int set) {
        return set == 0 ? NONE : 31 - Integer.numberOfLeadingZeros(set);
    }
}
