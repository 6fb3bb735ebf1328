import java.io.IOException;
import java.lang.reflect.InvocationTargetException;
import java.lang.reflect.Method;
import java.nio.file.Files;
import java.nio.file.Path;
import java.util.ArrayList;
import java.util.List;
import java.util.Map;
import java.util.TreeMap;
import java.util.regex.Matcher;
import java.util.regex.Pattern;

/** Each line of Java in README.md answers what stands behind it, and each group of calls has its section. */
public final class ReadmeTest {
    private static final Path README = Path.of("README.md");
    private static final Path DOCUMENT = Path.of("../shared/DOC.md");
    private static final String NEW_BOARD = "BulbShapes board = new BulbShapes();";
    private static final Pattern CALL = Pattern.compile("board\\.(\\w+)\\((.*)\\); +// ([^:]+)(: .+)?");
    private static final Pattern GROUP = Pattern.compile(
            "Ahead of the calls (.*) the interface says: ---- ([^.;]*).*");

    private static BulbShapes board = new BulbShapes();

    public static void main(String[] args) throws IOException {
        Map<String, List<String>> shown = runExamples();
        int groups = 0;
        for (String line : Files.readAllLines(DOCUMENT)) {
            Matcher group = GROUP.matcher(line);
            if (group.matches()) {
                groups++;
                dueGroup(group.group(2), group.group(1), shown);
            }
        }
        Check.due("groups of calls in the document", groups, 4);
        Check.end();
    }

    private static void dueGroup(String group, String calls, Map<String, List<String>> shown) {
        String heading = Character.toUpperCase(group.charAt(0)) + group.substring(1);
        for (String call : calls.replace("`", "").split(", ")) {
            boolean isShown = shown.getOrDefault(heading, List.of()).contains(call);
            Check.due("README.md shows " + call + " below " + heading, isShown, true);
        }
    }

    /** Returns the names of the calls by the headings that they stand below. */
    private static Map<String, List<String>> runExamples() throws IOException {
        Map<String, List<String>> shown = new TreeMap<>();
        String heading = "";
        boolean isJava = false;
        for (String line : Files.readAllLines(README)) {
            if (line.startsWith("```")) {
                isJava = line.equals("```java");
            } else if (line.startsWith("#")) {
                heading = line.replaceFirst("^#+ ", "");
            } else if (isJava && !line.isBlank()) {
                shown.computeIfAbsent(heading, name -> new ArrayList<>()).add(runLine(line));
            }
        }
        return shown;
    }

    private static String runLine(String line) {
        if (line.equals(NEW_BOARD)) {
            board = new BulbShapes();
            return "new";
        }
        Matcher call = CALL.matcher(line);
        Check.due("\"" + line + "\" is a call with its answer", call.matches(), true);
        if (!call.matches()) {
            return "";
        }
        String told = call.group(3);
        // masks are told as the document tells them, in octal
        String want = told.matches("0[0-7]+") ? Long.decode(told).toString() : told;
        Check.due("board." + call.group(1) + "(" + call.group(2) + ")", answer(call.group(1), call.group(2)), want);
        return call.group(1);
    }

    private static String answer(String name, String arguments) {
        List<Object> values = new ArrayList<>();
        for (String argument : arguments.isEmpty() ? new String[0] : arguments.split(", ")) {
            values.add(valueOf(argument));
        }
        for (Method method : BulbShapes.class.getMethods()) {
            if (method.getName().equals(name) && method.getParameterCount() == values.size()) {
                return call(method, values.toArray());
            }
        }
        return "no such call";
    }

    private static String call(Method method, Object[] values) {
        try {
            return String.valueOf(method.invoke(board, values));
        } catch (InvocationTargetException e) {
            return "throws " + e.getCause().getClass().getSimpleName();
        } catch (IllegalAccessException | IllegalArgumentException e) {
            return "cannot be called";
        }
    }

    private static Object valueOf(String argument) {
        if (argument.equals("BulbShapes.NONE")) {
            return BulbShapes.NONE;
        }
        if (argument.matches("true|false")) {
            return Boolean.valueOf(argument);
        }
        return argument.matches("'.'") ? Integer.valueOf(argument.charAt(1)) : Integer.decode(argument);
    }
}
