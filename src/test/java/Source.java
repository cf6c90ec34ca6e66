import java.io.IOException;
import java.nio.file.Files;
import java.nio.file.Path;
import java.util.ArrayList;
import java.util.List;
import java.util.Set;
import java.util.TreeSet;
import java.util.regex.Matcher;
import java.util.regex.Pattern;

/** The class as it stands in its file: the code without comments and texts, and its methods by their indentation. */
final class Source {
    private static final Pattern HEAD = Pattern.compile("( {4}| {8})(?!if |for |while |switch |do |else |\\})"
        + "(?:[\\w\\[\\]]+ )*(\\w+)\\(.*\\) \\{");

    /** A method or constructor: its name and its lines, from its head to its last brace. */
    record Part(String name, List<String> lines) {
        boolean isConstructor() {
            return Character.isUpperCase(name.charAt(0));
        }

        String body() {
            return String.join("\n", lines.subList(1, lines.size()));
        }
    }

    private final String code;
    private final List<Part> parts = new ArrayList<>();

    Source() throws IOException {
        String whole = Files.readString(Path.of("src/main/java/TalkDown.java"));
        code = whole.replaceAll("\"[^\"\n]*\"", "\"\"").replaceAll("(?s)/\\*.*?\\*/", "").replaceAll("//[^\n]*", "");
        List<String> lines = code.lines().toList();
        for (int i = 0; i < lines.size(); i++) {
            Matcher head = HEAD.matcher(lines.get(i));
            if (head.matches()) {
                int rest = lines.subList(i, lines.size()).indexOf(head.group(1) + "}");
                parts.add(new Part(head.group(2), lines.subList(i, i + rest + 1)));
            }
        }
    }

    String code() {
        return code;
    }

    List<Part> parts() {
        return parts;
    }

    /** All words that fit, each once. */
    Set<String> words(String pattern) {
        Set<String> all = new TreeSet<>();
        Matcher m = Pattern.compile(pattern).matcher(code);
        while (m.find()) {
            all.add(m.group());
        }
        return all;
    }

    /** How many calls stand open at most below one to a method of this name; more than the limit if they may go round. */
    int depth(String name, int limit) {
        int deepest = 0;
        for (Part part : parts) {
            for (Part called : parts) {
                boolean calls = part.name().equals(name) && calls(part, called);
                if (calls && limit > 0) {
                    deepest = Math.max(deepest, 1 + depth(called.name(), limit - 1));
                } else if (calls) {
                    return 1;
                }
            }
        }
        return deepest;
    }

    private static boolean calls(Part part, Part called) {
        return Pattern.compile("\\b" + called.name() + "\\(").matcher(part.body()).find();
    }
}
