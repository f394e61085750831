import java.io.IOException;
import java.nio.file.Files;
import java.nio.file.Path;
import java.util.ArrayList;
import java.util.List;
import java.util.Map;
import java.util.TreeMap;

/** What ../shared/DOC.md promises, by section; words that a test cites are crossed out, so what no test cites is found. */
final class Doc {
    static final int INTRO = -1, TERMS = 0, PROMISES = 41;
    private final Map<Integer, StringBuilder> sections = new TreeMap<>();

    Doc(Path path) throws IOException {
        int section = Integer.MIN_VALUE;
        for (String line : Files.readString(path).split("\n")) {
            if (line.startsWith("## ")) {
                section = number(line.substring(3));
            } else if (section != Integer.MIN_VALUE && isPromised(line)) {
                String words = line.replaceFirst("^`[^`]*`: |^=+ \\d ", "").trim().replaceAll(" +", " ");
                sections.computeIfAbsent(section, s -> new StringBuilder(" ")).append(words).append(' ');
            }
        }
    }

    private static int number(String heading) {
        if (heading.equals("Terms")) return TERMS;
        if (heading.equals("What it is")) return INTRO;
        return heading.startsWith("Promise ") ? Integer.parseInt(heading.replaceAll("\\D+(\\d+).*", "$1")) : Integer.MIN_VALUE;
    }

    /** All but the fences, the story that comes first, and what only sets headings over the calls. */
    private static boolean isPromised(String line) {
        return !line.isBlank() && !line.startsWith("```") && !line.startsWith("Partners by height:")
            && !line.startsWith("Ahead of the calls");
    }

    /** False if the section doesn't say so, or as often as it does, this has been cited already. */
    boolean cite(int section, String words) {
        StringBuilder text = sections.get(section);
        int at = text == null ? -1 : text.indexOf(words);
        if (at >= 0) {
            text.replace(at, at + words.length(), " ");
        }
        return at >= 0;
    }

    List<String> uncited() {
        List<String> left = new ArrayList<>();
        sections.forEach((section, text) -> {
            if (text.chars().anyMatch(Character::isLetterOrDigit)) {
                left.add(section + ": " + text.toString().replaceAll(" +", " "));
            }
        });
        for (int p = TERMS; p <= PROMISES; p++) {
            if (!sections.containsKey(p)) left.add(p + ": there is no such section");
        }
        return left;
    }
}
