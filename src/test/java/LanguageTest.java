import java.io.IOException;
import java.nio.charset.StandardCharsets;
import java.nio.file.Files;
import java.nio.file.Path;
import java.util.List;

/** The class keeps to the rules of LANGUAGE.md, and Rules sees a source that breaks one. */
public final class LanguageTest {
    private static final Check CHECK = new Check("LanguageTest");

    /** The rule that is broken, and a member of the class that breaks it. */
    private static final String[] BREAKING = {
        "1 int open() { return 1; }",
        "1 protected int open() { return 1; }",
        "1 int open;",
        "1 public int open;",
        "1 public static class Inside { }",
        "1 public int one() { return 1; } private int one(int v) { return v; }",
        "2 private class Inside { }",
        "2 private int one() { class Local { } return 1; }",
        "2 private interface Kind { int one(); } private final Kind kind = () -> 1;",
        "2 private interface Kind { int one(int v); } private final Kind kind = Math::abs;",
        "2 private interface Kind { int one(); } private final Kind kind = new Kind() { public int one() { return 1; } };",
        "3 private Object any;",
        "3 private final int[][][] deep = new int[1][1][1];",
        "3 private String[] texts;",
        "3 private static final class Inside { } private Inside[][] wide;",
        "3 private java.util.Map<Integer, Integer> map;",
        "4 private int one(int v) { return Math.addExact(v, v); }",
        "4 private long one() { return System.nanoTime(); }",
        "4 private double one() { return Math.random(); }",
        "4 private int one(String v) { return Integer.parseInt(v); }",
        "4 private int one() { return Integer.MAX_VALUE; }",
        "4 private String one(String v) { return v.trim(); }",
        "5 private static int count;",
        "5 private static final int[] MADE = new int[3];",
        "5 private static final int[] ROW = {1, 2}; private void one() { ROW[0] = 3; }",
        "5 private static final int[] ROW = {1, 2}; private void one() { ROW[0]++; }",
        "5 private static final int ONE; static { ONE = 1; }",
        "6 private void one() { throw new IllegalStateException(); }",
        "6 private void one() { try { one(1); } finally { one(2); } } private void one(int v) { }",
        "6 private void one() { synchronized (this) { } }",
        "6 private synchronized void one() { }",
        "6 private void one(int v) { assert v > 0; }",
        "6 private boolean one(String a, String b) { return a == b; }",
        "6 private static class Inside { public String toString() { return \"\"; } }",
        "6 private static class Inside { } private Inside one(Inside v) { return (Inside) v; }",
        "7 private final int size = 3; private final int[] row = new int[one()]; private static int one() { return 1; }",
        "8 private static int one(int v) { return v > 0 ? one(v - 1) : 0; }",
        "8 private int one(int v) { return two(v); } private int two(int v) { return v > 0 ? one(v - 1) : 0; }",
        "9 private void one() { while (true) { } }",
        "9 private void one() { for (;;) { } }",
        "9 private void one(int a, int b) { while (a != b) { a++; } }",
        "9 private void one(int a, int b) { while (a < b) { a += 0; } }",
        "9 private void one(int a, int b) { while (a < b) { a--; } }",
        "9 private void one(int a, int b) { for (int i = 0; i < a; b++) { } }",
        "9 private void one(int a, int b) { do { a++; } while (a < 3 || b < 3); }",
        "10 private String one(String a, int v) { return a + v; }",
        "10 private String one(String a, int v) { a += v; return a; }",
        "11 private int one(int a, int b, int c, int d, int e, int f, int g, int h) { return a; }",
        "11 private int one() {" + "\n".repeat(60) + "return 1; }",
        "11 private int a() { return b(); } private int b() { return c(); } private int c() { return d(); }"
            + " private int d() { return e(); } private int e() { return f(); } private int f() { return g(); }"
            + " private int g() { return h(); } private int h() { return i(); } private int i() { return 1; }",
        "11 private int a, b, c, d, e, f, g, h, i, j, k, l, m, n, o, p, q, r, s, t, u;",
        "12 private int[] one() { return new int[3]; }",
        "12 private static final class Inside { } private Inside one() { return new Inside(); }",
        "13 private void one() { new Thread(); }"};

    public static void main(String[] args) throws IOException {
        for (String row : BREAKING) {
            breaking(row.substring(0, row.indexOf(' ')), row.substring(row.indexOf(' ') + 1));
        }
        none("nothing inside", "public final class NamesInRow { }");
        breakingSource("1", "package names; public final class NamesInRow { }");
        breakingSource("1", "public class NamesInRow { }");
        breakingSource("1", "public final class NamesInRow { } class Another { }");
        breakingSource("4", "import java.util.Random; public final class NamesInRow { }");
        breakingSource("11", "public final class NamesInRow { " + classes(12) + " }");
        none("eleven classes inside", "public final class NamesInRow { " + classes(11) + " }");

        Path source = Path.of(args.length > 0 ? args[0] : ".", "src/main/java/NamesInRow.java");
        String text = Files.readString(source, StandardCharsets.ISO_8859_1);
        none("the class", text);
        CHECK.isTrue("signs 1 to 127 alone", text.matches("[\\x01-\\x7f]*"));
        CHECK.end();
    }

    private static String classes(int many) {
        StringBuilder text = new StringBuilder();
        for (int i = 0; i < many; i++) {
            text.append("private static class Inside").append(i).append(" { } ");
        }
        return text.toString();
    }

    private static void none(String what, String source) throws IOException {
        List<String> broken = Rules.brokenBy(source);
        CHECK.isTrue(what + " keeps to the rules: " + broken, broken.isEmpty());
    }

    private static void breaking(String rule, String member) throws IOException {
        breakingSource(rule, "public final class NamesInRow { " + member + " }");
    }

    /** A clock, a thread or chance (rule 13) can be had from the library alone (rule 4). */
    private static void breakingSource(String rule, String source) throws IOException {
        String seenAs = rule.equals("13") ? "4, " : rule + ", ";
        List<String> broken = Rules.brokenBy(source);
        boolean isSeen = false;
        for (String one : broken) {
            isSeen |= one.startsWith(seenAs);
        }
        CHECK.isTrue("rule " + rule + " is broken by " + source + ": " + broken, isSeen);
    }
}
