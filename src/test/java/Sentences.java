import java.io.IOException;
import java.nio.file.Files;
import java.nio.file.Path;
import java.util.ArrayList;
import java.util.Arrays;
import java.util.LinkedHashMap;
import java.util.List;
import java.util.Map;

/** The document, and which of its words a test is for. */
final class Sentences {
    private static final String ONCE = "## What it is";
    private static final String TERMS = "## Terms";
    private final Map<String, String> texts = new LinkedHashMap<>();
    private final Map<String, boolean[]> taken = new LinkedHashMap<>();

    Sentences(Path document) throws IOException {
        String heading = "";
        StringBuilder text = new StringBuilder();
        for (String line : Files.readAllLines(document)) {
            if (line.startsWith("## ")) {
                keep(heading, text);
                heading = line.replaceFirst("^(## Promise [0-9]+):.*", "$1");
                text.setLength(0);
            } else if (!line.startsWith("```")) {
                text.append(line).append(' ');
            }
        }
        keep(heading, text);
    }

    private void keep(String heading, StringBuilder text) {
        // The face has a test of its own, so a promise's words begin behind its method's head.
        String words = oneLine(text.toString()).replaceFirst("^`[^`]*`: ", "");
        texts.put(heading, words);
        taken.put(heading, new boolean[words.length()]);
    }

    private static String oneLine(String text) {
        return text.replaceAll("\\s+", " ").trim();
    }

    /** A test is for this sentence: what is wrong with that, or an empty text. */
    String take(int promise, String sentence) {
        for (String heading : new String[] {"## Promise " + promise, TERMS, ONCE}) {
            String text = texts.getOrDefault(heading, "");
            int at = text.indexOf(sentence);
            if (at >= 0 && text.indexOf(sentence, at + 1) >= 0) {
                return "stands more than once under " + heading;
            }
            if (at >= 0) {
                Arrays.fill(taken.get(heading), at, at + sentence.length(), true);
                return "";
            }
        }
        return "does not stand in the document";
    }

    /** The words of 'Terms' and of the promises that no test is for. */
    List<String> left() {
        List<String> left = new ArrayList<>();
        for (String heading : texts.keySet()) {
            if (heading.equals(TERMS) || heading.startsWith("## Promise ")) {
                String text = texts.get(heading);
                int from = 0;
                for (int i = 0; i <= text.length(); i++) {
                    if (i == text.length() || taken.get(heading)[i]) {
                        String words = text.substring(from, i);
                        if (words.matches(".*[A-Za-z].*")) {
                            left.add(heading + ": " + words.trim());
                        }
                        from = i + 1;
                    }
                }
            }
        }
        return left;
    }

    int promises() {
        return (int) texts.keySet().stream().filter(heading -> heading.startsWith("## Promise ")).count();
    }
}
