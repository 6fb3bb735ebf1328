import java.util.Objects;

/** Counts the answers that are not the ones that are due, and tells them. */
final class Check {
    interface Call {
        Object answer();
    }

    /** One fault can make thousands of answers wrong. */
    private static final int MOST_TOLD = 40;

    private static int checked = 0;
    private static int wrong = 0;
    private static String about = "";

    private Check() {
    }

    /** Stands ahead of each wrong answer that is told from now on. */
    static void about(String words) {
        about = words;
    }

    static int answers() {
        return checked;
    }

    static void due(String call, Object got, Object want) {
        checked++;
        if (!Objects.equals(got, want)) {
            wrong++;
            if (wrong <= MOST_TOLD) {
                System.out.println(about + call + " answered " + got + ", due is " + want);
            }
        }
    }

    static void due(String call, long got, long want) {
        due(call, Long.valueOf(got), Long.valueOf(want));
    }

    /** The answer as a text, so that one that is an exception can be compared as well. */
    static String told(Call call) {
        try {
            return String.valueOf(call.answer());
        } catch (RuntimeException e) {
            return "throws." + e.getClass().getSimpleName();
        }
    }

    static void outOfBounds(String name, BulbShapes x, Call call) {
        throwing(name, x, call, "throws.IndexOutOfBoundsException");
    }

    static void illegalArgument(String name, BulbShapes x, Call call) {
        throwing(name, x, call, "throws.IllegalArgumentException");
    }

    static void illegalState(String name, BulbShapes x, Call call) {
        throwing(name, x, call, "throws.IllegalStateException");
    }

    private static void throwing(String name, BulbShapes x, Call call, String want) {
        long before = x.digest();
        due(name, told(call), want);
        due("digest() behind " + name, x.digest(), before);
    }

    static void write(BulbShapes x, String text) {
        for (int i = 0; i < text.length(); i++) {
            x.append(text.charAt(i));
        }
    }

    static void end() {
        System.out.println(checked + " answers, " + wrong + " wrong");
        if (wrong != 0 || checked == 0) {
            System.exit(1);
        }
    }
}
