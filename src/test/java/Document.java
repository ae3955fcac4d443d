import java.io.IOException;
import java.io.UncheckedIOException;
import java.nio.file.Files;
import java.nio.file.Path;
import java.util.ArrayList;
import java.util.LinkedHashMap;
import java.util.List;
import java.util.Map;

/** The sentences of ../shared/DOC.md by what they stand under: "Promise 3", "Hold" and the like of the terms, a title. */
final class Document {
    private static final Path PLACE = Path.of("../shared/DOC.md");

    private final Map<String, List<String>> sentences = new LinkedHashMap<>();

    Document() {
        String title = "";
        for (String part : text().split("\n\\s*\n|\n(?=- )")) {
            String words = part.strip().replaceAll("\\s+", " ");
            if (words.startsWith("#")) {
                title = words.replaceAll("^#+ |:.*", "");
            } else if (title.equals("Terms") && words.matches("[A-Z]\\w+\\. .*")) {
                add(words.substring(0, words.indexOf('.')), words.substring(words.indexOf('.') + 2));
            } else {
                add(title, words);
            }
        }
    }

    List<String> sentencesOf(String heading) {
        return sentences.getOrDefault(heading, List.of());
    }

    /** The sentences of which some words are a part. */
    List<String> sentencesWith(String heading, String words) {
        List<String> found = new ArrayList<>();
        for (String sentence : sentencesOf(heading)) {
            if (sentence.contains(words)) {
                found.add(sentence);
            }
        }
        return found;
    }

    /** The signature in front of a promise, and a parameter of which no number is told, are no sentences. */
    private void add(String heading, String words) {
        if (words.startsWith("- ") && !words.matches(".*\\d.*")) {
            return;
        }
        for (String sentence : words.replaceFirst("^`[^`]*\\([^`]*`: ", "").split("(?<=\\.) (?=[A-Z])")) {
            sentences.computeIfAbsent(heading, key -> new ArrayList<>()).add(sentence);
        }
    }

    private static String text() {
        try {
            return Files.readString(PLACE);
        } catch (IOException e) {
            throw new UncheckedIOException(e);
        }
    }
}
