import java.io.IOException;
import java.nio.file.Files;
import java.nio.file.Path;
import java.util.List;

/** The class keeps to LANGUAGE.md; that the look at it sees a fault is tried with small programs. */
public final class LanguageTest {
    private static final Path SOURCE = Path.of("src/main/java/BulbShapes.java");

    private static final String SOUND = "public final class BulbShapes { private final int[] a = new int[3];"
            + " private static final int[] C = {1}; private static final int B = 7;"
            + " private static int half(int x) { return x / 2 + x % B; }"
            + " public int f(int x) { if (x < 0) { throw new IllegalArgumentException(\"no\"); }"
            + " int s = 0; for (int i = 0; i < x && s < 9; i++) { s += half(i) + a[0]; } return s; } ";

    /** The rule that each breaks, and what comes behind the sound program. */
    private static final String[] BROKEN = {
        "rule 2", "interface Q { int q(); } private final Q q = () -> 1;",
        "rule 2", "interface Q { int q(int x); } private final Q q = Integer::bitCount;",
        "rule 3", "private final Object o = null;",
        "rule 3", "private final String[][] s = null;",
        "rule 4", "public int g() { return Math.addExact(1, 2); }",
        "rule 4", "public int g() { return Double.compare(1.0, 2.0); }",
        "rule 4", "public long g() { return System.nanoTime(); }",
        "rule 4", "private final java.util.Random r = new java.util.Random(1L);",
        "rule 5", "static { int x = 1; }",
        "rule 5", "public int g() { C[0] = 2; return 1; }",
        "rule 5", "public int g() { C[0] += 2; return 1; }",
        "rule 5", "public int g() { C[0]++; return 1; }",
        "rule 5", "public int g() { --C[0]; return 1; }",
        "rule 6", "public int g() { try { return f(1); } catch (IllegalArgumentException e) { return 2; } }",
        "rule 6", "public int g() { synchronized (this) { return 1; } }",
        "rule 6", "public int g(int x) { assert x > 0; return 1; }",
        "rule 6", "public BulbShapes() { throw new IllegalStateException(\"no\"); }",
        "rule 6", "public int g(String s) { throw new IllegalStateException(s); }",
        "rule 6", "public int g() { throw new RuntimeException(\"no\"); }",
        "rule 7", "public int g(int x) { return 1 / x; }",
        "rule 7", "public int g(int x) { return x % 0; }",
        "rule 7", "public int g(int x) { int y = 5; y /= x; return y; }",
        "rule 7", "public int g(String s) { return ((Object) s) == null ? 1 : 2; }",
        "rule 9", "public int g(int x) { while (x > 0) { x--; } return x; }",
        "rule 9", "public int g(int x) { do { x--; } while (x > 0); return x; }",
        "rule 9", "public int g(int x) { for (;;) { return x; } }",
        "rule 9", "public int g(int x) { for (int i = 0; x < 9; i++) { x += i; } return x; }",
        "rule 9", "public int g(int x) { for (int i = 0; i < 9 || x < 9; i++) { x += 0; } return x; }",
        "rule 9", "public int g(int x) { for (int i = 0; i < 9; i--) { x += i; } return x; }",
        "rule 9", "public int g(int x) { for (int i = 0; i < 9; i += x) { x += i; } return x; }",
        "rule 9", "public int g(int x) { for (int i = 0; i < 9; i++) { i = x; } return x; }",
        "rule 9", "public int g(int x) { for (int i = 0; i < 9; i++) { i--; } return x; }",
        "rule 8", "private static int g(int x) { return x < 1 ? 0 : g(x - 1); }",
        "rule 8", "private static int g(int x) { return h(x); } private static int h(int x) { return g(x); }",
        "rule 10", "public String g(String s) { return \"a\" + s; }",
        "rule 11", "public int g(int a, int b, int c, int d, int e, int f, int g, int h) { return a; }",
        "rule 11", "public int g() { return 1;" + "\n".repeat(60) + "}",
        "rule 11", "int a" + String.join(", a", "bcdefghijklmnopqrstuv".split("")) + ";",
        "rule 11", "private static class A" + String.join(" { } private static class A",
                "bcdefghijklmn".split("")) + " { }",
        "rule 11", "int a() { return b(); } int b() { return c(); } int c() { return d(); } int d() { return e(); }"
                + " int e() { return g(); } int g() { return h(); } int h() { return i(); } int i() { return j(); }"
                + " int j() { return 1; }",
        "rule 12", "public int g() { int[] b = new int[2]; return b.length; }",
        "rule 12", "public int g() { BulbShapes x = new BulbShapes(); return x.f(1); }",
    };

    public static void main(String[] args) throws IOException {
        dueEachFaultSeen();
        Check.due("what breaks LANGUAGE.md", LanguageRules.faultsOf(Files.readString(SOURCE)), List.of());
        Check.end();
    }

    private static void dueEachFaultSeen() throws IOException {
        Check.due("what breaks it in a sound program", LanguageRules.faultsOf(SOUND + "}"), List.of());
        Check.due("a package line", LanguageRules.faultsOf("package p; " + SOUND + "}").size(), 1);
        Check.due("an import", LanguageRules.faultsOf("import java.util.Random; " + SOUND + "}").size(), 1);
        for (int i = 0; i < BROKEN.length; i += 2) {
            List<String> faults = LanguageRules.faultsOf(SOUND + BROKEN[i + 1] + "}");
            String rule = BROKEN[i];
            boolean isSeen = faults.stream().anyMatch(told -> told.matches(rule + "\\b.*"));
            Check.due(rule + " is broken by " + BROKEN[i + 1] + ": " + faults, isSeen, true);
        }
    }
}
