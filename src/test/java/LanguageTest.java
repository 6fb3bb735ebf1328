import java.io.IOException;
import java.nio.file.Files;
import java.nio.file.Path;
import java.util.List;
import java.util.regex.Matcher;
import java.util.regex.Pattern;

/** Of the rules of LANGUAGE.md those that a look at the text can tell. */
public final class LanguageTest {
    private static final Path SOURCE = Path.of("src/main/java/BulbShapes.java");
    private static final int LONGEST_METHOD = 60;

    /** Each with the rule that it would break. */
    private static final String[] RULED_OUT = {
        "rule 1", "^package\\b",
        "rule 2", "->|::",
        "rule 4", "^import\\b|\\b(Double|Float|Boolean|Character|Short|Byte|Object|Collections)\\.|Exact\\(",
        "rule 4", "java\\.|\\bSystem\\.(?!arraycopy)|\\bArrays\\.(?!copyOf|copyOfRange|fill)",
        "rule 5", "\\bstatic\\s*\\{",
        "rule 6", "\\b(try|catch|finally|synchronized|assert)\\b",
        "rule 6", "\\b(equals|hashCode|toString|getMessage|getClass)\\(",
        "rule 6", "throw new (?!(IndexOutOfBounds|IllegalArgument|IllegalState)Exception\\(\"[^\"]*\"\\);)",
        "rule 6", "throw (?!new )",
        "rule 10", "\" *\\+|\\+ *\"",
        "rule 13", "\\b(Thread|Random|Math\\.random|currentTimeMillis|nanoTime)\\b",
    };

    public static void main(String[] args) throws IOException {
        List<String> lines = Files.readAllLines(SOURCE);
        for (int i = 0; i < RULED_OUT.length; i += 2) {
            dueNone(lines, RULED_OUT[i], Pattern.compile(RULED_OUT[i + 1]));
        }
        dueShortMethods(lines);
        Check.end();
    }

    private static void dueNone(List<String> lines, String rule, Pattern pattern) {
        for (int i = 0; i < lines.size(); i++) {
            String code = lines.get(i).replaceAll("^\\s*(/\\*\\*|\\*|//).*", "");
            Matcher matcher = pattern.matcher(code);
            Check.due(rule + ", line " + (i + 1), matcher.find() ? matcher.group() : "", "");
        }
    }

    /** By the indents: a method ends with the first brace that stands as far in as its head. */
    private static void dueShortMethods(List<String> lines) {
        for (int i = 0; i < lines.size(); i++) {
            Matcher head = Pattern.compile("^( {4}| {8})\\w[^;=]*\\(.*").matcher(lines.get(i));
            if (!head.matches() || lines.get(i).contains(" return ")) {
                continue;
            }
            int end = i;
            while (end < lines.size() && !lines.get(end).equals(head.group(1) + "}")) {
                end++;
            }
            Check.due("length of" + lines.get(i) + " is short", end - i < LONGEST_METHOD, true);
        }
    }
}
