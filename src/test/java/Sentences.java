import java.util.LinkedHashMap;
import java.util.Map;
import java.util.Set;
import java.util.regex.Matcher;
import java.util.regex.Pattern;

/** The document's terms and promises, and which of their words a case has quoted. */
final class Sentences {
    private final Map<String, String> texts = new LinkedHashMap<>();
    private final Map<String, boolean[]> quoted = new LinkedHashMap<>();

    Sentences(String doc) {
        String terms = doc.substring(doc.indexOf("## Terms") + 8, doc.indexOf("Ahead of the calls"));
        String[] parts = terms.replace("```text", " ").replace("```", " ").split("========");
        add("Terms", parts[0]);
        for (int part = 1; part < parts.length; part++) {
            add("Part " + part, parts[part].strip().substring(1));
        }
        Matcher m = Pattern.compile("## Promise (\\d+): [^\\n]*\\n\\s*`[^`]*`: ([^\\n]*)").matcher(doc);
        while (m.find()) {
            add("Promise " + m.group(1), m.group(2));
        }
    }

    private void add(String section, String text) {
        String words = text.replaceAll("\\s+", " ").strip();
        texts.put(section, words);
        quoted.put(section, new boolean[words.length()]);
    }

    Set<String> sections() {
        return texts.keySet();
    }

    /** Whether the words stand in that section; they are quoted then. */
    boolean quote(String section, String words) {
        int at = texts.getOrDefault(section, "").indexOf(words);
        if (at < 0) {
            return false;
        }
        java.util.Arrays.fill(quoted.get(section), at, at + words.length(), true);
        return true;
    }

    /** The first words of a section that nobody has quoted; signs alone need no case. */
    String unquoted(String section) {
        String words = texts.get(section);
        boolean[] told = quoted.get(section);
        for (int from = 0; from < words.length(); from++) {
            if (!told[from] && Character.isLetterOrDigit(words.charAt(from))) {
                int to = from;
                while (to < words.length() && !told[to]) {
                    to++;
                }
                return words.substring(from, to);
            }
        }
        return "";
    }
}
