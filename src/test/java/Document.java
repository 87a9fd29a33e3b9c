import java.io.IOException;
import java.io.UncheckedIOException;
import java.nio.file.Files;
import java.nio.file.Path;
import java.util.ArrayList;
import java.util.LinkedHashMap;
import java.util.LinkedHashSet;
import java.util.List;
import java.util.Map;
import java.util.Set;

/**
 * The sentences of the document. A test tells which sentence it tests before its checks; a sentence that no test
 * tells, one that the document does not hold, and one that nothing is checked for are wrong answers. (What the
 * interface says ahead of calls is the matter of FaceTest.)
 */
final class Document {
    private static final Path FILE = Path.of("../shared/DOC.md");
    private static final String TITLES = "(Workers and boards|Orders and gangs|Turn|Dispatching|Refusing|Shifts"
            + "|Periods|Exceptions)\\.|Ahead of the calls .*";

    private final Map<String, Set<String>> untested = new LinkedHashMap<>();
    private final Map<String, Set<String>> tested = new LinkedHashMap<>();
    private String section = "";
    private String told = "";
    private int checksBefore = 0;

    /** The sections whose headings match. */
    Document(String headings) {
        for (String part : text().split("(?m)^## ")) {
            String heading = part.lines().findFirst().orElse("");
            if (heading.matches(headings)) {
                untested.put(heading, sentences(part.substring(heading.length())));
                tested.put(heading, new LinkedHashSet<>());
            }
        }
    }

    static String text() {
        try {
            return Files.readString(FILE);
        } catch (IOException e) {
            throw new UncheckedIOException(e);
        }
    }

    private static Set<String> sentences(String text) {
        Set<String> sentences = new LinkedHashSet<>();
        for (String line : text.split("\n")) {
            if (line.startsWith("- ")) {
                sentences.add(line.substring(2));
            } else if (!line.isBlank()) {
                addSentences(line.replaceAll("^`.*?\\).*?`: ", ""), sentences);
            }
        }
        return sentences;
    }

    private static void addSentences(String line, Set<String> sentences) {
        for (String sentence : line.split("(?<=\\.)\\s+")) {
            if (!sentence.matches(TITLES)) {
                sentences.add(sentence);
            }
        }
    }

    void section(String heading) {
        finishSentence();
        Check.due("the document has the section " + heading, true, untested.containsKey(heading));
        section = heading;
    }

    /** What is checked from now on is checked for these sentences of the section. */
    void says(String... sentences) {
        finishSentence();
        for (String sentence : sentences) {
            boolean known = untested.containsKey(section) && (untested.get(section).remove(sentence)
                    || tested.get(section).contains(sentence));
            Check.due("the document says in " + section + ": " + sentence, true, known);
            if (known) {
                tested.get(section).add(sentence);
            }
        }
        told = String.join(" / ", sentences);
        checksBefore = Check.count();
    }

    private void finishSentence() {
        if (!told.isEmpty() && Check.count() == checksBefore) {
            Check.due("something is checked for: " + told, true, false);
        }
        told = "";
    }

    /** To be called when all tests have run. */
    void end() {
        finishSentence();
        List<String> left = new ArrayList<>();
        for (Map.Entry<String, Set<String>> entry : untested.entrySet()) {
            for (String sentence : entry.getValue()) {
                left.add(entry.getKey() + ": " + sentence);
            }
        }
        Check.due("sentences without a test", "", String.join("\n", left));
        Check.due("sentences are found", true, !tested.isEmpty());
    }
}
