import java.io.IOException;
import java.nio.file.Files;
import java.nio.file.Path;
import java.util.ArrayList;
import java.util.LinkedHashMap;
import java.util.LinkedHashSet;
import java.util.List;
import java.util.Map;
import java.util.Set;

/** The sentences of ../shared/DOC.md by their sections, and which of them a test holds. */
final class Document {
    private static final Path FILE = Path.of("..", "shared", "DOC.md");

    private final Map<String, List<String>> sections = new LinkedHashMap<>();
    private final Set<String> held = new LinkedHashSet<>();
    private final Due due;

    Document(Due due) throws IOException {
        this.due = due;
        List<String> sentences = new ArrayList<>();
        boolean inCode = false;
        for (String line : Files.readAllLines(FILE)) {
            if (line.startsWith("```")) {
                inCode = !inCode;
            } else if (line.startsWith("#")) {
                sentences = new ArrayList<>();
                sections.put(line.replaceFirst("#+ ", "").replaceFirst("(Promise \\d+):.*", "$1"), sentences);
            } else if (!inCode && !line.isBlank()) {
                addSentences(line, sentences);
            }
        }
    }

    private static void addSentences(String line, List<String> sentences) {
        String plain = line.replaceFirst("^- ", "").replace("`", "");
        for (String sentence : plain.split("(?<=\\.|\\.\\))\\s+")) {
            sentences.add(sentence.trim());
        }
    }

    /** A new run for the one sentence of a section in which some words stand. */
    Run run(String section, String words) {
        String sentence = sentenceWith(section, words);
        held.add(section + ": " + sentence);
        return new Run(due, section + " (" + words + ")");
    }

    private String sentenceWith(String section, String words) {
        String found = null;
        for (String sentence : sections.getOrDefault(section, List.of())) {
            if (sentence.contains(words)) {
                if (found != null) {
                    throw new IllegalStateException("more sentences than one of " + section + " have: " + words);
                }
                found = sentence;
            }
        }
        if (found == null) {
            throw new IllegalStateException("no sentence of " + section + " has: " + words);
        }
        return found;
    }

    /** Each sentence has a test, but for those that name no boundary: these are told by section and words. */
    void isHeldBut(String[][] others) {
        Set<String> free = new LinkedHashSet<>();
        for (String[] other : others) {
            free.add(other[0] + ": " + sentenceWith(other[0], other[1]));
        }
        for (Map.Entry<String, List<String>> section : sections.entrySet()) {
            for (String sentence : section.getValue()) {
                String whole = section.getKey() + ": " + sentence;
                due.holds("a test of the sentence, " + whole + ",", held.contains(whole) != free.contains(whole));
            }
        }
    }
}
