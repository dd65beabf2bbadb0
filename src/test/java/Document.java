import java.io.IOException;
import java.io.UncheckedIOException;
import java.nio.file.Files;
import java.nio.file.Path;
import java.util.ArrayList;
import java.util.LinkedHashMap;
import java.util.List;
import java.util.Map;

/** What the document promises, in its own words: its section "Terms", and those of the promises. */
final class Document {
    private static final Path PLACE = Path.of("..", "shared", "DOC.md");
    private static final String TERMS = "Terms";

    private final Map<String, String> sections = new LinkedHashMap<>();
    private final Map<String, boolean[]> named = new LinkedHashMap<>();

    Document() {
        Map<String, StringBuilder> texts = read();
        for (Map.Entry<String, StringBuilder> section : texts.entrySet()) {
            String words = withoutSignature(section.getValue().toString().trim().replaceAll("\\s+", " "));
            sections.put(section.getKey(), words);
            named.put(section.getKey(), new boolean[words.length()]);
        }
    }

    private static Map<String, StringBuilder> read() {
        Map<String, StringBuilder> texts = new LinkedHashMap<>();
        String heading = "";
        for (String line : lines()) {
            if (line.startsWith("#")) {
                heading = line.replaceAll("^#+ ", "").replaceAll("^(Promise \\d+):.*", "$1");
            } else if (!line.startsWith("```") && (heading.equals(TERMS) || heading.startsWith("Promise "))) {
                texts.computeIfAbsent(heading, h -> new StringBuilder()).append(line).append(' ');
            }
        }
        return texts;
    }

    private static List<String> lines() {
        try {
            return Files.readAllLines(PLACE);
        } catch (IOException e) {
            throw new UncheckedIOException(e);
        }
    }

    private static String withoutSignature(String words) {
        return words.replaceAll("^`[^`]*`: ", "");
    }

    /** Whether the document says these words, of all promises or of this one. */
    boolean says(int promise, String words) {
        boolean ofAll = name(TERMS, words);
        return name("Promise " + promise, words) || ofAll;
    }

    private boolean name(String section, String words) {
        String text = sections.getOrDefault(section, "");
        int first = text.indexOf(words);
        for (int at = first; at >= 0; at = text.indexOf(words, at + 1)) {
            for (int k = 0; k < words.length(); k++) {
                named.get(section)[at + k] = true;
            }
        }
        return first >= 0;
    }

    /** The words that nobody has asked for yet. */
    List<String> leftOver() {
        List<String> left = new ArrayList<>();
        for (Map.Entry<String, String> section : sections.entrySet()) {
            StringBuilder part = new StringBuilder();
            for (int k = 0; k < section.getValue().length(); k++) {
                boolean ends = named.get(section.getKey())[k];
                part.append(ends ? '\n' : section.getValue().charAt(k));
            }
            for (String words : part.toString().split("\n+")) {
                if (words.matches(".*\\w.*")) {
                    left.add(section.getKey() + ": " + words.trim());
                }
            }
        }
        return left;
    }
}
