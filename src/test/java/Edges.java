import java.util.ArrayList;
import java.util.List;

/** Numbers around bounds, and objects of which a refused call could spoil much. */
final class Edges {
    private static final int[] FAR = {Integer.MIN_VALUE, Integer.MIN_VALUE + 1, -65536, -256, -128, -64, -33, -32, -31, -16,
        -5, -4, -3, -2, -1, 0, 1, 2, 3, 4, 5, 6, 7, 8, 9, 10, 11, 15, 16, 17, 31, 32, 33, 35, 63, 64, 99, 100, 101, 127,
        128, 255, 256, 600, 601, 65536, 1 << 30, Integer.MAX_VALUE - 1, Integer.MAX_VALUE};

    private Edges() {
    }

    /** Numbers outside of the bounds, among them those next to them, the lowest and the highest int. */
    static int[] outside(int least, int most) {
        List<Integer> all = new ArrayList<>(List.of(least - 1, most + 1));
        for (int number : FAR) {
            if ((number < least || number > most) && !all.contains(number)) {
                all.add(number);
            }
        }
        return all.stream().mapToInt(Integer::intValue).toArray();
    }

    /** Everything has been told, two pairs have met, there was a FAULT, and the tape holds a text. */
    static Made rich() {
        return Made.told("friend 0 has 1 2;friend 1 has 1 2 3;friend 2 has 0;friend 4 has 3;broken 1;retries 2;mend mark;"
                + "mend pin;forbid 0;cost bind 7;cost forbid 3 0;must 0 1;must 1 4;")
            .and(x -> x.meet(0, 1))
            .and(x -> x.meet(4, 1))
            .and(x -> Tapes.tell(x, "retries 9;"))
            .and(x -> Tapes.feed(x, "friend 3 has 2;mend bind;retries 1;     "));
    }
}
