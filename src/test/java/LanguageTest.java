import java.io.IOException;
import java.nio.file.Files;
import java.nio.file.Path;
import java.util.Set;
import java.util.TreeSet;

/** The rules of ../shared/LANGUAGE.md that can be seen in the source, as LanguageRules sees them. */
public final class LanguageTest {
    private static final Path SOURCE = Path.of("src", "main", "java", "BurstFinder.java");

    private LanguageTest() {
    }

    /** The numbers of the rules that a class X with these members breaks. */
    private static Set<Integer> broken(String members) {
        return brokenBy("public final class X { " + members + " }");
    }

    private static Set<Integer> brokenBy(String source) {
        Set<Integer> rules = new TreeSet<>();
        try {
            for (String finding : LanguageRules.findings("X", source)) {
                rules.add(Integer.parseInt(finding.substring(0, finding.indexOf(','))));
            }
        } catch (IOException e) {
            throw new IllegalStateException(e);
        }
        return rules;
    }

    private static void dueBroken(int rule, String members) {
        Check.due(members, Set.of(rule), () -> broken(members));
    }

    /** Members that can't break the one rule without the other. */
    private static void dueBroken(int rule, String members, int other) {
        Check.due(members, Set.of(rule, other), () -> broken(members));
    }

    private static void dueGood(String members) {
        Check.due(members, Set.of(), () -> broken(members));
    }

    private static void faces() {
        Check.due("a package", Set.of(1), () -> brokenBy("package p; public final class X { }"));
        Check.due("not final", Set.of(1), () -> brokenBy("public class X { }"));
        Check.due("two classes", true,
                () -> brokenBy("public final class X { } final class Y { }").contains(1));
        dueBroken(1, "int open;");
        dueBroken(1, "void open() { }");
        dueBroken(1, "protected void open() { }");
        dueBroken(1, "public void f() { } private void f(int a) { }");
        dueBroken(1, "public void f() { } private static final class I { private void f() { } }");
        dueBroken(1, "private final class I { }");
        dueBroken(1, "public static final class I { }");
        dueGood("public static final int A = 1; private static final class I { private int i; }");
    }

    private static void partsOfTheLanguage() {
        String maker = "private interface I { X make(); } ";
        dueBroken(2, maker + "private void f() { I i = X::new; }");
        dueBroken(2, maker + "private void f() { I i = () -> null; }");
        dueBroken(2, "private void f(int a) { final class I { } }", 1);
        dueBroken(3, "private Object o;");
        dueBroken(3, "private int[][][] o;");
        dueBroken(3, "private String[] o;");
        dueBroken(3, "private java.util.Set<String> f() { return null; }");
        dueBroken(3, "private double f(double a) { return a % 2.0; }");
        dueBroken(4, "private double f(double a) { return Math.sqrt(a); }");
        dueBroken(4, "private int f(int a) { return Math.addExact(a, a); }");
        dueBroken(4, "private double f(double a) { return Math.max(a, 1.0); }");
        dueBroken(4, "private long f() { return System.nanoTime(); }");
        dueGood("private int f(int a) { return Math.max(a, Integer.bitCount(a)); }");
        dueBroken(5, "private static int count = 0;");
        dueBroken(5, "private static final int[] ROW = new int[4];");
        dueBroken(5, "private static final double HALF = 0.5;");
        dueBroken(5, "static { }");
        dueGood("private static final int[] ROW = {1, 2}; private static final long L = 5L;");
    }

    private static void exceptions() {
        dueBroken(6, "private void f() { throw new Error(); }");
        dueBroken(6, "private void f(String s) { throw new RuntimeException(s); }");
        dueBroken(6, "private void f() { throw new RuntimeException(\"a\", null); }");
        dueBroken(6, "public X() { throw new RuntimeException(); }");
        dueBroken(6, "private void f() { try { g(); } catch (RuntimeException e) { } }"
                + " private void g() { }", 3);
        dueBroken(6, "private void f() { synchronized (this) { } }");
        dueBroken(6, "private void f(int a) { assert a > 0; }");
        dueGood("private void f() { throw new IllegalStateException(\"a\"); }");
    }

    private static void divisorsAndLoops() {
        dueBroken(7, "private int f(int a, int b) { return a / b; }");
        dueBroken(7, "private int f(int a, int b) { a %= b; return a; }");
        dueBroken(7, "private int f(int a) { return a / 0; }");
        dueBroken(7, "private int f(int a, int b) { int c = a / b; return b < 1 ? 0 : c; }");
        dueGood("private int f(int a, int b) { return b < 1 ? 0 : a / b; }");
        dueGood("private int f(int a) { return a / 2; }");
        dueBroken(8, "private int f(int a) { return f(a - 1); }");
        dueBroken(8, "private int f(int a) { return g(a); } private int g(int a) { return f(a); }"
                + many(" private int NAME(int a) { return a; }", 9));
        dueBroken(9, "private void f(int a) { while (a > 0) { a--; } }");
        dueBroken(9, "private void f(int a) { do { a--; } while (a > 0); }");
        dueBroken(9, "private void f() { for (;;) { } }");
        dueBroken(9, "private void f(int a) { for (int i = 0; i < a; i += a) { } }");
        dueBroken(9, "private void f(int a) { for (int i = 0; i < a; i++) { i--; } }");
        dueBroken(9, "private void f(int a) { for (int i = 0; a > 0; i++) { } }");
        dueGood("private void f(int a) { for (int i = 1; i < a; i *= 2) { } }");
        dueBroken(10, "private String f(String a) { return a + a; }");
        dueBroken(10, "private String f(String a) { a += a; return a; }");
    }

    private static String many(String member, int times) {
        StringBuilder all = new StringBuilder();
        for (int i = 0; i < times; i++) {
            all.append(member.replace("NAME", "n" + i));
        }
        return all.toString();
    }

    private static void sizes() {
        dueBroken(11, "private void f(int a, int b, int c, int d, int e, int g, int h, int i) { }");
        dueGood("private void f(int a, int b, int c, int d, int e, int g, int h) { }");
        dueBroken(11, "private void f() {" + "\n".repeat(60) + "}");
        dueGood("private void f() {" + "\n".repeat(59) + "}");
        dueBroken(11, many("private static final class NAME { } ", 12));
        dueGood(many("private static final class NAME { } ", 11));
        dueBroken(11, many("private int NAME; ", 21));
        dueGood(many("private int NAME; ", 20));
        dueBroken(11, chain(9));
        dueGood(chain(8));
        dueBroken(12, "private X f() { return new X(); }");
        dueBroken(12, "private int[] f() { return new int[4]; }");
        dueBroken(12, "public X() { f(); } private void f() { }");
        dueGood("private final int[] row = new int[4]; private final long[] more;"
                + " public X() { more = new long[2]; }");
    }

    /** Methods each of which calls the next. */
    private static String chain(int length) {
        StringBuilder all = new StringBuilder("private void m" + length + "() { } ");
        for (int i = 1; i < length; i++) {
            all.append("private void m" + i + "() { m" + (i + 1) + "(); } ");
        }
        return all.toString();
    }

    public static void main(String[] args) throws IOException {
        Set<String> found = LanguageRules.findings("BurstFinder", Files.readString(SOURCE));
        Check.due("BurstFinder.java", Set.of(), () -> found);
        faces();
        partsOfTheLanguage();
        exceptions();
        divisorsAndLoops();
        sizes();
        Check.finish("LanguageTest");
    }
}
