import java.io.IOException;
import java.nio.file.Files;
import java.nio.file.Path;
import java.util.List;

/** The class keeps to the rules of ../shared/LANGUAGE.md, as far as Language can read them off it. */
public final class LanguageTest {
    private static final Checks CHECKS = new Checks();
    /** Members that a rule rules out: so it is seen that Language finds such ones at all. */
    private static final String[][] RULED_OUT = {
        {"1", "public static final class Open { }"},
        {"2", "private Runnable r = () -> { };"},
        {"2", "private Runnable r = HandSpans::new;"},
        {"2", "private void f() { class Local { } }"},
        {"3", "private Object o;"},
        {"3", "private int[][][] deep;"},
        {"3", "private HandSpans[][] deep;"},
        {"3", "private Object f() { return null; }"},
        {"4", "private int f() { return Integer.MAX_VALUE; }"},
        {"4", "private long f() { return System.nanoTime(); }"},
        {"4", "private int f(int a) { return Math.addExact(a, 1); }"},
        {"4", "private void f() { System.out.println(); }"},
        {"4", "private int[] f(int[] a) { java.util.Arrays.sort(a); return a; }"},
        {"4", "private Object o = new Object();"},
        {"5", "private static int changing;"},
        {"5", "private static final int[] ROW = new int[3];"},
        {"5", "private static final int[] ROW = {1, 2}; private void f() { ROW[0] = 2; }"},
        {"5", "private static final int[] ROW = {1, 2}; private void f() { ROW[0]++; }"},
        {"5", "private static final int[] ROW = {1, 2}; private void f() { ROW[0] += 2; }"},
        {"5", "private static final boolean[] ROW = {true};"},
        {"5", "static { }"},
        {"6", "private void f() { throw new Error(); }"},
        {"6", "private void f(RuntimeException e) { throw e; }"},
        {"6", "private static final class A { A(int a) { if (a < 0) { throw new IllegalStateException(); } } }"},
        {"6", "private int f(int a) { try { return 1 / a; } catch (ArithmeticException e) { return 0; } }"},
        {"6", "private void f() { try { } finally { } }"},
        {"6", "private synchronized void f() { }"},
        {"6", "private void f(int a) { assert a > 0; }"},
        {"6", "private static final class A { public int hashCode() { return 1; } }"},
        {"6", "private boolean f(String a, String b) { return a == b; }"},
        {"6", "private HandSpans f(Object o) { return (HandSpans) o; }"},
        {"8", "private int f(int a) { return a > 0 ? f(a - 1) : 0; }"},
        {"8", "private int f(int a) { return a > 0 ? g(a - 1) : 0; } private int g(int a) { return f(a); }"},
        {"9", "private void f() { while (true) { } }"},
        {"9", "private void f() { for (;;) { } }"},
        {"9", "private void f() { do { } while ((true)); }"},
        {"10", "private String f(int a) { return \"a\" + a; }"},
        {"10", "private String f(String a) { a += a; return a; }"},
        {"10", "private int f(String a) { switch (a) { case \"a\": return 1; default: return 0; } }"},
        {"11", "private void f(int a, int b, int c, int d, int e, int g, int h, int i) { }"},
        {"11", "private void f() {" + "\n".repeat(60) + "}"},
        {"11", "private int " + letters(21, ", ") + ";"},
        {"11", numbered(12, "private static final class A# { }")},
        {"11", deepCalls(9)},
        {"12", "private int[] f() { return new int[3]; }"},
        {"12", "private HandSpans f() { return new HandSpans(); }"},
    };
    private static final String[] LEFT = {
        "",
        "private static final int[] ROW = {1, 2}; private int f(int i) { return i == 1 ? ROW[1] : ROW.length; }",
        "private final int[][] a = new int[2][3]; private final A[] b = new A[2]; private static final class A { }",
        "private int f(String a) { return a.length() + Math.abs(-3) + Integer.bitCount(5) + (int) 3L; }",
        "private int f(int a) { if (a < 0) { throw new IllegalStateException(\"below\"); } return a; }",
        "private int f(int a, int b, int c, int d, int e, int g, int h) { while (a > 0) { a--; } return a; }",
        "private void f() {" + "\n".repeat(59) + "}",
        "private int " + letters(20, ", ") + ";",
        numbered(11, "private static final class A# { }"),
        deepCalls(8),
    };

    public static void main(String[] args) throws IOException {
        for (String[] one : RULED_OUT) {
            List<String> faults = faultsOf(one[1]);
            CHECKS.that("rule " + one[0] + " is not told of " + one[1] + ": " + faults,
                    faults.stream().anyMatch(told -> told.matches("(?s)rule " + one[0] + "[,:].*")));
        }
        for (String one : LEFT) {
            List<String> faults = faultsOf(one);
            CHECKS.that(one + " is told of: " + faults, faults.isEmpty());
        }
        String source = Files.readString(Path.of("src/main/java/HandSpans.java"));
        for (String told : Language.faults(source)) {
            CHECKS.that(told, false);
        }
        signs(source);
        CHECKS.close();
    }

    private static List<String> faultsOf(String members) throws IOException {
        return Language.faults("public final class HandSpans { public HandSpans() { } " + members + "\n}\n");
    }

    private static void signs(String source) {
        for (int i = 0; i < source.length(); i++) {
            char c = source.charAt(i);
            CHECKS.that("sign " + (int) c + " at " + i, c == '\n' || c >= ' ' && c <= '~');
        }
    }

    private static String letters(int count, String between) {
        StringBuilder told = new StringBuilder("a0");
        for (int i = 1; i < count; i++) {
            told.append(between).append('a').append(i);
        }
        return told.toString();
    }

    private static String numbered(int count, String member) {
        StringBuilder told = new StringBuilder();
        for (int i = 0; i < count; i++) {
            told.append(member.replace("#", String.valueOf(i))).append(' ');
        }
        return told.toString();
    }

    private static String deepCalls(int deep) {
        StringBuilder told = new StringBuilder();
        for (int i = 1; i < deep; i++) {
            told.append("private void f").append(i).append("() { f").append(i + 1).append("(); } ");
        }
        return told.append("private void f").append(deep).append("() { } ").toString();
    }
}
