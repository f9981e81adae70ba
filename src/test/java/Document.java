import java.io.IOException;
import java.nio.file.Files;
import java.nio.file.Path;
import java.util.ArrayList;
import java.util.LinkedHashMap;
import java.util.List;
import java.util.Map;
import java.util.regex.Matcher;
import java.util.regex.Pattern;

/** The document, heading by heading, and which of its words some test is of. */
final class Document {
    private final Map<String, String> sections = new LinkedHashMap<>();
    private final Map<String, boolean[]> quoted = new LinkedHashMap<>();

    Document(Path path) throws IOException {
        String[] parts = Files.readString(path).split("(?m)^## ");
        for (int i = 1; i < parts.length; i++) {
            int line = parts[i].indexOf('\n');
            String heading = parts[i].substring(0, line).replaceAll(":.*", "").trim();
            String text = bare(parts[i].substring(line));
            sections.put(heading, text);
            quoted.put(heading, new boolean[text.length()]);
        }
    }

    /** Signatures are RulesTest's; fences and the numbers of parts say nothing. */
    private static String bare(String text) {
        return text.replaceAll("(?m)^```.*$", " ")
            .replaceAll("(?m)^`[^`]*`: ", " ")
            .replaceAll("==== [IVX]+\\.", " ")
            .replaceAll("\\s+", " ");
    }

    /** How often the words stand under that heading; they are a test's from now on. */
    int quote(String heading, String words) {
        String text = sections.getOrDefault(heading, "");
        int found = 0;
        for (int from = text.indexOf(words); from >= 0; from = text.indexOf(words, from + 1)) {
            found++;
            for (int i = from; i < from + words.length(); i++) {
                quoted.get(heading)[i] = true;
            }
        }
        return found;
    }

    /** The words from "Terms" to the last promise of which no test is. */
    List<String> unquoted() {
        List<String> words = new ArrayList<>();
        for (String heading : sections.keySet()) {
            if (!heading.equals("Terms") && !heading.startsWith("Promise ")) {
                continue;
            }
            Matcher word = Pattern.compile("\\S+").matcher(sections.get(heading));
            while (word.find()) {
                if (!quoted.get(heading)[word.start()]) {
                    words.add(heading + ": " + word.group());
                }
            }
        }
        return words;
    }

    int promises() {
        int count = 0;
        for (String heading : sections.keySet()) {
            count += heading.startsWith("Promise ") ? 1 : 0;
        }
        return count;
    }
}
