import java.io.IOException;
import java.nio.file.Files;
import java.nio.file.Path;
import java.util.ArrayList;
import java.util.List;
import java.util.Map;
import java.util.Set;
import java.util.TreeMap;
import java.util.TreeSet;

/** The sentences of the document, section by section, and which of them have a test. */
final class Sentences {
    private static final Path DOCUMENT = Path.of("../shared/DOC.md");
    /** They promise nothing that a call could break; FaceTest holds the face. */
    private static final Set<String> WITHOUT_TESTS = Set.of("What it is", "The public face", "Not promised");

    private static final Map<String, List<String>> SENTENCES = read();
    private static final Map<String, List<String>> TESTED = new TreeMap<>();
    private static String section = "";

    private Sentences() {
    }

    /** The sentences that follow stand in this section, told by its heading up to a colon. */
    static void in(String heading) {
        section = heading;
        Check.about("");
        Check.due("the document has the section " + heading, SENTENCES.containsKey(heading), true);
        TESTED.putIfAbsent(heading, new ArrayList<>());
    }

    /** Runs the test of a sentence, or of the words in it that name one case. */
    static void holds(String words, Runnable test) {
        Check.about(section + ", \"" + words + "\": ");
        boolean stands = false;
        for (String sentence : SENTENCES.getOrDefault(section, List.of())) {
            stands |= sentence.contains(words) || words.contains(sentence);
        }
        Check.due("it stands in the document", stands, true);
        int before = Check.answers();
        test.run();
        Check.due("it has a test", Check.answers() > before, true);
        TESTED.get(section).add(words);
        Check.about("");
    }

    /** A sentence that comes into the document has to get its test. */
    static void dueATestForEach() {
        Check.due("promises in the document", SENTENCES.containsKey("Promise 24"), true);
        Set<String> untested = new TreeSet<>();
        for (Map.Entry<String, List<String>> entry : SENTENCES.entrySet()) {
            for (String sentence : entry.getValue()) {
                if (!WITHOUT_TESTS.contains(entry.getKey()) && !isTested(entry.getKey(), sentence)) {
                    untested.add(entry.getKey() + ": " + sentence);
                }
            }
        }
        Check.due("sentences without a test", untested, new TreeSet<String>());
    }

    private static boolean isTested(String heading, String sentence) {
        for (String words : TESTED.getOrDefault(heading, List.of())) {
            if (sentence.contains(words) || words.contains(sentence)) {
                return true;
            }
        }
        return false;
    }

    private static Map<String, List<String>> read() {
        Map<String, List<String>> sentences = new TreeMap<>();
        String heading = "";
        for (String line : lines()) {
            if (line.startsWith("## ") || line.startsWith("### ")) {
                heading = line.replaceFirst("^#+ ", "").replaceFirst(":.*", "");
                sentences.put(heading, new ArrayList<>());
            } else if (isTold(line) && !heading.isEmpty()) {
                // the face's own line is left out: what it does stands behind it
                String text = line.replaceFirst("^`[^`]*\\)[^`]*`: ", "");
                sentences.get(heading).addAll(List.of(text.split("(?<=[.;]) ")));
            }
        }
        return sentences;
    }

    private static boolean isTold(String line) {
        return !line.isBlank() && !line.equals("Fields, lamps, shapes");
    }

    private static List<String> lines() {
        try {
            return Files.readAllLines(DOCUMENT);
        } catch (IOException e) {
            throw new IllegalStateException("no document at " + DOCUMENT, e);
        }
    }
}
