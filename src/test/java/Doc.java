import java.io.IOException;
import java.io.UncheckedIOException;
import java.nio.file.Files;
import java.nio.file.Path;
import java.util.BitSet;
import java.util.LinkedHashMap;
import java.util.Map;

/** The document, section by section, and which of its words a test has stood for. */
final class Doc {
    /** Its first paragraph tells in short what the promises tell in full, so it needs no tests of its own. */
    static final String OVERVIEW = "What it is";

    private static final Map<String, String> SECTIONS = sections();
    private static final Map<String, BitSet> SAID = new LinkedHashMap<>();

    private Doc() {
    }

    /** What is asked from here on stands for these words, which must stand in that section. */
    static void says(String section, String words) {
        String text = SECTIONS.getOrDefault(section, "");
        int from = text.indexOf(words);
        Check.about(section + ", '" + words + "'");
        if (from < 0) {
            Check.due("the document has these words", 0, 1);
            return;
        }
        SAID.computeIfAbsent(section, s -> new BitSet()).set(from, from + words.length());
    }

    /** No word of a promise or of the terms may be left for which no test stands. */
    static void nothingIsLeft() {
        Check.about("the document");
        Check.due("sections", SECTIONS.size(), 43);
        for (Map.Entry<String, String> section : SECTIONS.entrySet()) {
            if (section.getKey().equals(OVERVIEW)) {
                continue;
            }
            String left = leftOf(section.getKey(), section.getValue());
            Check.due(section.getKey() + " has words without a test: " + left, left.length(), 0);
        }
    }

    private static String leftOf(String section, String text) {
        BitSet said = SAID.getOrDefault(section, new BitSet());
        StringBuilder left = new StringBuilder();
        for (int i = 0; i < text.length(); i++) {
            if (!said.get(i) && Character.isLetterOrDigit(text.charAt(i))) {
                left.append(text.charAt(i));
            }
        }
        return left.toString();
    }

    private static Map<String, String> sections() {
        Map<String, String> found = new LinkedHashMap<>();
        for (String part : document().split("(?m)^## ")) {
            String title = part.lines().findFirst().orElse("");
            String body = part.substring(title.length());
            if (title.equals(OVERVIEW)) {
                found.put(title, plain(body));
            } else if (title.equals("Terms")) {
                body = body.replaceAll("(?m)^Ahead of the calls .*$", "").replaceAll("(?m)^(```\\w*|======== \\d)", "");
                found.put(title, plain(body));
            } else if (title.matches("Promise \\d+: .*")) {
                found.put(title.replaceAll(":.*", ""), plain(body.replaceFirst("`[^`]*`:", "")));
            }
        }
        return found;
    }

    private static String plain(String text) {
        return text.replaceAll("\\s+", " ").trim();
    }

    private static String document() {
        try {
            return Files.readString(Path.of("../shared/DOC.md"));
        } catch (IOException e) {
            throw new UncheckedIOException(e);
        }
    }
}
