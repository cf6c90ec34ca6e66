/** Brings texts to an object and back as strings, and asks how they were told. */
final class Tapes {
    private static final int FED = 20;

    private Tapes() {
    }

    /** Feeds the text, filled up with a byte that begins no token, and answers how many bytes are on the tape. */
    static int feed(TalkDown x, String text) {
        int many = 0;
        for (int from = 0; from < text.length(); from += FED) {
            int[] n = new int[5];
            for (int i = 0; i < FED; i++) {
                int letter = from + i < text.length() ? text.charAt(from + i) : '#';
                n[i / 4] = n[i / 4] << 8 | letter;
            }
            many = x.feed(n[0], n[1], n[2], n[3], n[4]);
        }
        return many;
    }

    static int tell(TalkDown x, String text) {
        feed(x, text);
        return x.tells(text.length());
    }

    static TalkDown told(String text) {
        TalkDown x = new TalkDown();
        int statements = tell(x, text);
        if (statements < 0) {
            throw new IllegalStateException("fault at " + x.fault() + " of " + text);
        }
        return x;
    }

    static String written(TalkDown x) {
        StringBuilder all = new StringBuilder();
        int length = x.text(TalkDown.NONE);
        for (int i = 0; i < length; i++) {
            all.append((char) x.text(i));
        }
        return all.toString();
    }

    /** A text without a FAULT, told to a new object. */
    static void good(Due due, String text, int statements, String written) {
        TalkDown x = new TalkDown();
        due.is("tells \"" + text + "\"", tell(x, text), statements);
        due.is("fault of \"" + text + "\"", x.fault(), TalkDown.NONE);
        due.is("written of \"" + text + "\"", written(x), written);
    }

    /** A text with a FAULT, told to a new object. */
    static void bad(Due due, String text, int place) {
        TalkDown x = new TalkDown();
        due.is("tells \"" + text + "\"", tell(x, text), TalkDown.NONE);
        due.is("fault of \"" + text + "\"", x.fault(), place);
        due.is("written of \"" + text + "\"", x.text(TalkDown.NONE), 0);
    }
}
