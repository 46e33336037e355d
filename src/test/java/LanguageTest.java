import java.io.IOException;
import java.nio.file.Files;
import java.nio.file.Path;
import java.util.List;

/** Rules 1 to 13 of LANGUAGE.md, as far as the source alone can tell; and that a source that breaks one is found out. */
public final class LanguageTest {
    public static void main(String[] args) throws IOException {
        theClass();
        membersThatBreak();
        statementsThatBreak();
        filesThatBreak();
        sizesThatBreak();
        Due.end();
    }

    private static void theClass() throws IOException {
        List<String> broken = Language.brokenBy(Files.readString(Path.of("src/main/java/InnChanged.java")));
        Due.due("rules that the class breaks (rule, line): " + broken, broken.size(), 0);
    }

    /** A source that keeps to the rules, but for what is put into it. */
    private static String source(String members, String statements) {
        return "public final class InnChanged {\n"
                + "private final int[] row = new int[6];\n"
                + "private static final int[] FIXED = {1, 2};\n"
                + members + "\n"
                + "public int call(int a) { int b = 0; String s = \"\"; String t = \"x\";\n" + statements
                + "\nreturn a + b; }\n}\n";
    }

    private static void breaks(int rule, String source) throws IOException {
        List<String> broken = Language.brokenBy(source);
        boolean found = broken.stream().anyMatch(b -> b.startsWith(rule + ", "));
        Due.due("rule " + rule + " is broken by " + source + ", found: " + broken, found ? 1 : 0, 1);
        boolean compiles = broken.stream().noneMatch(b -> b.startsWith("0, "));
        Due.due("it compiles: " + source + " " + broken, compiles ? 1 : 0, 1);
    }

    private static void keeps(String source) throws IOException {
        List<String> broken = Language.brokenBy(source);
        Due.due("no rule is broken by " + source + ", found: " + broken, broken.size(), 0);
    }

    private static void member(int rule, String member) throws IOException {
        breaks(rule, source(member, ""));
    }

    private static void statement(int rule, String statement) throws IOException {
        breaks(rule, source("", statement));
    }

    private static void membersThatBreak() throws IOException {
        keeps(source("", ""));
        keeps(source("private static final class Part { int n; int more() { return n + 1; } }", ""));
        keeps(source("private static int down(int depth) { return depth > 6 ? 0 : down(depth + 1); }", ""));
        member(1, "int shown() { return 0; }");
        member(1, "int shown;");
        member(1, "private int call() { return 0; }");
        member(1, "private static final class Part { private int call() { return 0; } }");
        member(1, "public static final class Part { }");
        member(2, "private final class Part { }");
        member(3, "private double[][][] far = new double[1][1][1];");
        member(3, "private Object any;");
        member(3, "private static final class Part { } private Part[][] parts;");
        member(5, "private static int count = 0;");
        member(5, "private static final int[] MADE = new int[3];");
        member(5, "private static final double HALF = 0.5;");
        member(5, "static { }");
        member(6, "public String toString() { return \"\"; }");
        member(8, "private int ever() { return ever(); }");
        member(8, "private int even() { return odd(); } private int odd() { return even(); }");
        member(12, "static class Part { Part() { more(); } void more() { } }");
    }

    private static void statementsThatBreak() throws IOException {
        keeps(source("", "for (int i = 0; i < a && i < row.length; i++) { b += row[i]; }"));
        statement(2, "class Local { }");
        statement(2, "Runnable r = () -> { };");
        statement(2, "Runnable r = s::length;");
        statement(2, "Runnable r = new Runnable() { public void run() { } };");
        statement(3, "Object o = null;");
        statement(3, "long[][][] far = null;");
        statement(4, "b = Math.addExact(a, 1);");
        statement(4, "b = s.trim().length();");
        statement(4, "b = s.hashCode();");
        statement(4, "b = (int) System.nanoTime();");
        statement(5, "FIXED[0] = 3;");
        statement(5, "FIXED[0]++;");
        statement(5, "FIXED[0] += 3;");
        statement(6, "if (a > 9) { throw new IllegalArgumentException(); }");
        statement(6, "try { b = 1; } finally { b = 2; }");
        statement(6, "assert a > 0;");
        statement(6, "synchronized (this) { b = 1; }");
        statement(6, "if (s == t) { b = 1; }");
        statement(7, "String u = (String) (s.isEmpty() ? s : t);");
        statement(9, "while (true) { if (a > 0) { break; } }");
        statement(9, "for (;;) { if (a > 0) { break; } }");
        statement(9, "do { b++; } while (b != a);");
        statement(10, "String u = s + t;");
        statement(10, "s += t;");
        statement(10, "switch (s) { default: b = 1; }");
        statement(12, "int[] made = new int[3];");
        statement(12, "int[] made = {3};");
        statement(12, "StringBuilder made = new StringBuilder();");
    }

    private static void filesThatBreak() throws IOException {
        breaks(1, "package inn;\n" + source("", ""));
        breaks(1, source("", "") + "final class Beside { }");
        breaks(1, source("", "").replace("public final class", "public class"));
        breaks(4, "import java.util.Random;\n" + source("", ""));
        breaks(4, "import java.util.*;\n" + source("", ""));
        breaks(4, source("// " + (char) 233, ""));
        keeps("import java.util.Arrays;\n" + source("", "Arrays.fill(row, 0);"));
    }

    private static void sizesThatBreak() throws IOException {
        keeps(source("", "b++;\n".repeat(55)));
        statement(11, "b++;\n".repeat(60));
        keeps(source("private int many(int a, int b, int c, int d, int e, int f, int g) { return a; }", ""));
        member(11, "private int many(int a, int b, int c, int d, int e, int f, int g, int h) { return a; }");
        StringBuilder parts = new StringBuilder();
        StringBuilder numbers = new StringBuilder();
        StringBuilder steps = new StringBuilder("private int m0() { return 0; }");
        for (int i = 1; i <= 8; i++) {
            steps.append("private int m" + i + "() { return m" + (i - 1) + "(); }");
            if (i == 7) {
                keeps(source(steps.toString(), ""));
            }
        }
        member(11, steps.toString());
        for (int i = 1; i <= 20; i++) {
            numbers.append("private int n" + i + ";");
            parts.append(i <= 12 ? "private static final class P" + i + " { }" : "");
        }
        member(11, numbers.toString());
        member(11, parts.toString());
    }
}
