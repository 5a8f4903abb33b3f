import java.util.Arrays;
import java.util.List;
import java.util.Map;
import java.util.TreeMap;

/** The document's sections as plain texts, and which of their words a test has cited. */
final class Sentences {
    /** What may be left between two cited pieces of a sentence. */
    private static final String JOINTS = "(\\s|[.,;:]|\\band\\b|\\bbut\\b)*";

    private final Map<String, String> texts = new TreeMap<>();
    private final Map<String, boolean[]> cited = new TreeMap<>();

    Sentences(List<String> lines) {
        String section = "";
        for (String line : lines) {
            if (line.startsWith("## ")) {
                section = line.substring(3).replaceAll("(Promise \\d+):.*", "$1");
            } else if (!isFrame(line)) {
                texts.merge(section, withoutSignature(line), (before, more) -> before + " " + more);
            }
        }
        for (Map.Entry<String, String> entry : texts.entrySet()) {
            entry.setValue(entry.getValue().replaceAll("\\s+", " ").trim());
            cited.put(entry.getKey(), new boolean[entry.getValue().length()]);
        }
    }

    /** Lines that only name a method's place or an argument say nothing that could be broken. */
    private static boolean isFrame(String line) {
        return line.startsWith("Ahead of the calls") || line.matches("- `\\w+`: [a-z ]+");
    }

    private static String withoutSignature(String line) {
        return line.replaceFirst("^`[^`]*\\([^`]*`: ", "");
    }

    /** Returns whether the words stand in the section, and notes that they are cited. */
    boolean cite(String section, String words) {
        String text = texts.getOrDefault(section, "");
        int at = text.indexOf(words);
        if (at >= 0) {
            Arrays.fill(cited.get(section), at, at + words.length(), true);
        }
        return at >= 0;
    }

    /** The words of a section that nothing cites, or an empty text. */
    String notCited(String section) {
        String text = texts.getOrDefault(section, "there is no such section");
        boolean[] isCited = cited.getOrDefault(section, new boolean[text.length()]);
        StringBuilder left = new StringBuilder();
        for (int i = 0; i < text.length(); i++) {
            left.append(isCited[i] ? '|' : text.charAt(i));
        }
        String pieces = left.toString().replaceAll("\\|+", " | ");
        return pieces.replace("|", "").matches(JOINTS) ? "" : pieces;
    }
}
