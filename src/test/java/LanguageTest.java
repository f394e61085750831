import java.io.IOException;
import java.nio.file.Files;
import java.nio.file.Path;
import java.util.List;

/** The class keeps to ../shared/LANGUAGE.md, as far as that can be read off its source; and the reading finds what doesn't. */
public final class LanguageTest {
    private static final Check CHECK = new Check("LanguageTest");
    private static final String TEN_LINES = "k++;\n".repeat(10);

    public static void main(String[] args) throws IOException {
        List<String> broken = Rules.brokenIn(Files.readString(Path.of("src/main/java/HeelDance.java")));
        broken.forEach(rule -> System.out.println("HeelDance.java breaks rule " + rule));
        CHECK.due("HeelDance.java breaks rules", broken.size(), 0);
        kept();
        faceAndClasses();
        typesAndLibrary();
        fieldsAndWords();
        divisorsLoopsAndDepth();
        CHECK.close();
    }

    private static void kept() throws IOException {
        String[] members = {"", "private static final int[] ROW = {1, 2};", "private static final class Own { int k; }",
            "private final int[] row = new int[3];", "private int a(int k) { return k == 0 ? 0 : 7 / k; }",
            "private int a(int n, int depth) { return depth > 9 ? n : a(n, depth + 1); }",
            "private int a(int n) { int k = 0; while (k < n && k < 9) { k++; } return k; }"};
        for (String member : members) {
            List<String> broken = Rules.brokenIn("public final class HeelDance { " + member + " }");
            CHECK.holds(member + " is kept, and not " + broken, broken.isEmpty());
        }
    }

    private static void faceAndClasses() throws IOException {
        finds(1, "package p; public final class HeelDance { }");
        finds(1, "public final class HeelDance { } class Other { }");
        finds(1, "public class HeelDance { }");
        within(1, "int seen;");
        within(1, "void seen() { }");
        within(1, "protected int seen;");
        within(1, "public static class Seen { }");
        within(1, "public int dance(int f) { return f; } private int dance() { return 0; }");
        within(1, "public int dance(int f) { return f; } private static class Own { int dance() { return 0; } }");
        within(2, "private class Inner { }");
        within(2, "private int a() { class Local { } return 0; }");
        within(2, "private static class Own { } private final Own own = new Own() { };");
        within(2, "private interface Own { int of(int k); } private final Own own = k -> k;");
        within(2, "private interface Own { int of(int k); } private final Own own = Math::abs;");
    }

    private static void typesAndLibrary() throws IOException {
        within(3, "private double k;");
        within(3, "private Object k;");
        within(3, "private String[] k;");
        within(3, "private int[][][] k;");
        within(3, "private Integer a() { return 3; }");
        within(3, "private final int[][] k = new int[2][2];");
        finds(4, "import java.util.Random; public final class HeelDance { }");
        within(4, "private int a(int k) { return Math.addExact(k, 1); }");
        within(4, "private int a(String s) { return s.hashCode(); }");
        within(4, "private long a() { return System.nanoTime(); }");
        within(4, "private int a(double d) { return (int) Math.round(d); }");
        within(4, "private int a() { return new StringBuilder().length(); }");
        within(4, "private static final String K = \"\\u00e9\";");
    }

    private static void fieldsAndWords() throws IOException {
        within(5, "private static int k;");
        within(5, "private static final int[] K = new int[3];");
        within(5, "static { }");
        within(6, "private int a() { throw new IllegalStateException(); }");
        within(6, "private int a() { try { return 0; } finally { } }");
        within(6, "private synchronized int a() { return 0; }");
        within(6, "private int a() { synchronized (this) { return 0; } }");
        within(6, "private int a(int k) { assert k > 0; return 0; }");
        within(6, "private int a(String s, String t) { return s == t ? 1 : 0; }");
        within(6, "public String toString() { return \"\"; }");
        within(6, "private static class Above { } private static final class Own extends Above { } "
            + "private int a(Above b) { return (Own) b == null ? 0 : 1; }");
        within(10, "private String a(String s) { return s + 1; }");
        within(10, "private String a(String s) { s += 1; return s; }");
    }

    private static void divisorsLoopsAndDepth() throws IOException {
        within(7, "private int a(int k) { return 7 / k; }");
        within(7, "private int a(int k) { k %= k; return k; }");
        within(7, "private static final int NO = 0; private int a(int k) { return k % NO; }");
        within(8, "private int a(int k) { return a(k - 1); }");
        within(8, "public int a(int depth) { return a(depth + 1); }");
        within(8, "private int a(int depth) { return b(depth + 1); } private int b(int depth) { return a(depth); }");
        within(9, "private int a() { while (true) { } }");
        within(9, "private int a() { for (;;) { } }");
        within(9, "private int a(int k, boolean b) { do { k++; } while (k < 9 || b); return k; }");
        within(11, "private int a(int b, int c, int d, int e, int f, int g, int h, int i) { return 0; }");
        within(11, "private int a(int k) { " + TEN_LINES.repeat(6) + " return k; }");
        within(11, "private static class Own { " + "int k#;".repeat(21) + " }");
        within(11, "private static class Own# { }".repeat(12));
        within(11, "private int a0() { return 0; }" + "private int a#() { return a~(); }".repeat(8));
        within(12, "private int a() { int[] row = {1}; return row.length; }");
        within(12, "private int a() { return new int[3].length; }");
        within(12, "private static class Own { } private Own a() { return new Own(); }");
        within(12, "public HeelDance() { a(); } private int a() { return 0; }");
    }

    private static void within(int rule, String member) throws IOException {
        finds(rule, "public final class HeelDance { " + numbered(member) + " }");
    }

    /** Each # is a number more, each ~ the one before it. */
    private static String numbered(String member) {
        StringBuilder text = new StringBuilder();
        int number = 0;
        for (char c : member.toCharArray()) {
            text.append(c == '#' ? "" + ++number : c == '~' ? "" + (number - 1) : "" + c);
        }
        return text.toString();
    }

    private static void finds(int rule, String source) throws IOException {
        List<String> broken = Rules.brokenIn(source);
        CHECK.holds("rule " + rule + " is broken, and not " + broken + ": " + source,
            broken.stream().anyMatch(b -> b.startsWith(rule + ": ")));
    }
}
