import java.util.ArrayList;
import java.util.List;
import java.util.regex.Matcher;
import java.util.regex.Pattern;

/**
 * The text's grammar by other means than the class has: each token becomes one letter, and a pattern says which rows
 * of letters a statement is and with which one goes on. What the statements tell is told by calls.
 */
final class Grammar {
    private static final Pattern TOKEN = Pattern.compile("[a-z]+|[0-9]+|[^ \\n]");
    private static final Pattern STATEMENT = Pattern.compile("F[0-4]h[0-3]*;|B[0-3]*;|R[0-3];|M[bmp];|f[0-3];"
        + "|C[bmp][0-4n];|Cf[0-3][0-4n];|U([0-4])(?!\\1)[0-4];");
    private static final String WORDS = " friend=F has=h broken=B retries=R mend=M forbid=f cost=C must=U bind=b mark=m pin=p ;=; ";
    private static final int MOST = 32;

    private final List<List<String>> statements = new ArrayList<>();
    private final int fault;

    Grammar(String text) {
        fault = read(text);
    }

    int fault() {
        return fault;
    }

    int answer() {
        return fault == TalkDown.NONE ? statements.size() : TalkDown.NONE;
    }

    private int read(String text) {
        Matcher tokens = TOKEN.matcher(text);
        List<String> row = new ArrayList<>();
        StringBuilder letters = new StringBuilder();
        while (tokens.find()) {
            row.add(tokens.group());
            Matcher statement = STATEMENT.matcher(letters.append(letter(tokens.group())));
            boolean whole = statement.matches();
            if (statements.size() == MOST || !(whole || statement.hitEnd())) {
                return tokens.start();
            }
            if (whole) {
                statements.add(row);
                row = new ArrayList<>();
                letters.setLength(0);
            }
        }
        return row.isEmpty() ? TalkDown.NONE : text.length();
    }

    private static char letter(String token) {
        if (token.matches("[0-9]+")) {
            boolean isNumber = token.length() <= 3 && Integer.parseInt(token) <= 100;
            return !isNumber ? '!' : Integer.parseInt(token) > 4 ? 'n' : (char) ('0' + Integer.parseInt(token));
        }
        int place = WORDS.indexOf(" " + token + "=");
        return place < 0 ? '!' : WORDS.charAt(place + token.length() + 2);
    }

    /** What the text tells, told to a new object by one call for each statement. */
    TalkDown byCalls() {
        TalkDown x = new TalkDown();
        for (List<String> row : statements) {
            tell(x, row);
        }
        return x;
    }

    private static void tell(TalkDown x, List<String> row) {
        switch (row.get(0)) {
            case "friend" -> x.ways(number(row, 1), set(row, 3));
            case "broken" -> x.broken(set(row, 1));
            case "retries" -> x.retries(number(row, 1));
            case "mend" -> x.mend(mend(row, 1), true);
            case "forbid" -> x.mend(mend(row, 0), true);
            case "cost" -> x.cost(mend(row, 1), number(row, row.size() - 2));
            default -> x.must(number(row, 1), number(row, 2), true);
        }
    }

    private static int number(List<String> row, int at) {
        return Integer.parseInt(row.get(at));
    }

    private static int set(List<String> row, int from) {
        int set = 0;
        for (int i = from; i < row.size() - 1; i++) {
            set |= 1 << number(row, i);
        }
        return set;
    }

    private static int mend(List<String> row, int at) {
        int named = List.of("bind", "mark", "pin").indexOf(row.get(at));
        return named >= 0 ? named : 3 + number(row, at + 1);
    }
}
