import java.io.IOException;
import java.nio.file.Files;
import java.nio.file.Path;
import java.util.ArrayList;
import java.util.HashSet;
import java.util.List;
import java.util.Set;
import java.util.TreeMap;
import java.util.Map;

/** The sentences of the document: section 0 is its description, the others are the promises by their numbers. */
final class Sentences {
    private final Map<Integer, List<String>> sections = new TreeMap<>();
    private final Set<String> tested = new HashSet<>();

    Sentences(Path document) throws IOException {
        String text = Files.readString(document).replace("\r", "");
        String[] parts = text.substring(0, text.indexOf("\n## Not promised")).split("\n## Promise ");
        String description = parts[0].substring(parts[0].indexOf("\n## Description\n") + 16);
        sections.put(0, split(description));
        for (int k = 1; k < parts.length; k++) {
            int number = Integer.parseInt(parts[k].substring(0, parts[k].indexOf(':')));
            String body = parts[k].substring(parts[k].indexOf('\n'));
            sections.put(number, split(body.replaceFirst("\n`[^`]*`\n", "\n").replaceAll("\n---- [^\n]*", "")));
        }
    }

    private static List<String> split(String text) {
        List<String> sentences = new ArrayList<>();
        for (String part : text.split("\n\n|\n(?=- )")) {
            for (String sentence : part.replaceAll("\\s+", " ").trim().split("(?<=\\.) ")) {
                if (!sentence.isEmpty()) {
                    sentences.add(sentence);
                }
            }
        }
        return sentences;
    }

    int promises() {
        return sections.size() - 1;
    }

    /** Notes that the sentence that starts like this has a test; false if there is not just one such sentence. */
    boolean test(int section, String start) {
        int found = 0;
        for (String sentence : sections.getOrDefault(section, List.of())) {
            if (sentence.startsWith(start)) {
                tested.add(section + " " + sentence);
                found++;
            }
        }
        return found == 1;
    }

    /** Those without a test that need one: all of the description, of the promises the ones with a limit. */
    List<String> untested(int firstSection, int lastSection) {
        List<String> untested = new ArrayList<>();
        for (int section = firstSection; section <= lastSection; section++) {
            for (String sentence : sections.getOrDefault(section, List.of())) {
                boolean isHeading = sentence.matches("[A-Z][a-z]*( [a-z]+)?\\.");
                boolean needsTest = section == 0 ? !isHeading : sentence.matches("Throws .*|.*[0-9].*");
                if (needsTest && !tested.contains(section + " " + sentence)) {
                    untested.add(section + ": " + sentence);
                }
            }
        }
        return untested;
    }
}
