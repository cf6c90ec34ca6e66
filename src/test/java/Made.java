import java.util.ArrayList;
import java.util.List;
import java.util.function.Consumer;

/**
 * How an object is made: by which calls on a new one. Each question goes to an object made anew, so that none is
 * used for more than the 512 calls that the document speaks of, however much a test asks.
 */
final class Made {
    static final int TAPE_FULL = 600;

    private final List<Consumer<TalkDown>> calls;

    private Made(List<Consumer<TalkDown>> calls) {
        this.calls = calls;
    }

    static Made fresh() {
        return new Made(List.of());
    }

    static Made told(String text) {
        return fresh().and(x -> Tapes.tell(x, text));
    }

    /** Made likewise, with one call more. */
    Made and(Consumer<TalkDown> call) {
        List<Consumer<TalkDown>> more = new ArrayList<>(calls);
        more.add(call);
        return new Made(more);
    }

    TalkDown object() {
        TalkDown x = new TalkDown();
        for (Consumer<TalkDown> call : calls) {
            call.accept(x);
        }
        return x;
    }

    String written() {
        return Tapes.written(object());
    }

    /** All that has been told and what is REMEMBERED, with what follows from it for everybody. */
    String state() {
        TalkDown x = object();
        StringBuilder all = new StringBuilder(written()).append(" remembered");
        for (int pair = 0; pair < 25; pair++) {
            all.append(' ').append(x.remembers(pair / 5, pair % 5));
        }
        all.append(" room ").append(x.room(31, TalkDown.NONE));
        return all.append(" cheapest ").append(x.cheapest(31, 1)).toString();
    }

    /** The state, the latest FAULT, and the tape: how many bytes, and what they would tell. */
    String all() {
        int many = bytesOnTape();
        Made told = and(x -> x.tells(many));
        return state() + " fault " + object().fault() + " tape " + many
            + " which tells " + object().tells(many) + " " + told.object().fault() + " " + told.state();
    }

    int bytesOnTape() {
        int fed = object().feed(0, 0, 0, 0, 0);
        return fed == TalkDown.NONE ? TAPE_FULL : fed - 20;
    }
}
