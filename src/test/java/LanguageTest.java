import java.io.IOException;
import java.nio.charset.StandardCharsets;
import java.nio.file.Files;
import java.nio.file.Path;
import java.util.Set;

/** The class keeps to LANGUAGE.md, as far as Rules can look it up. Its argument is the file. */
public final class LanguageTest {
    public static void main(String[] args) throws IOException {
        Path file = Path.of(args.length > 0 ? args[0] : "src/main/java/SealedLips.java");
        for (String broken : Rules.brokenBy(Files.readString(file, StandardCharsets.ISO_8859_1))) {
            Check.due("rule " + broken, 1, 0);
        }
        keptByLittle();
        brokenByOne();
        brokenByClass();
        Check.finish();
    }

    private static String around(String member) {
        return "public final class SealedLips { public SealedLips() { } " + member + " }";
    }

    private static void finds(int rule, String source) throws IOException {
        Set<String> broken = Rules.brokenBy(source);
        boolean found = false;
        for (String one : broken) {
            found = found || one.startsWith(rule + " ");
        }
        Check.due("rule " + rule + " is seen broken by " + source + ", found is " + broken + ",", found ? 1 : 0, 1);
    }

    private static void keptByLittle() throws IOException {
        String good = "private final int[] a = new int[3]; public int of(int b) { for (int i = 0; i < 3; i++) { a[i] = b / 2; } return twice(b); }"
            + " private static int twice(int b) { return b > 0 ? 2 % b : Math.max(b, 0); } private static final class Part { private long c; }";
        Set<String> broken = Rules.brokenBy(around(good));
        Check.due("nothing is broken by a good class: " + broken, broken.size(), 0);
    }

    /** A member that breaks a rule is found to do so. */
    private static void brokenByOne() throws IOException {
        finds(1, around("int a;"));
        finds(1, around("protected int a() { return 0; }"));
        finds(1, around("public int a; "));
        finds(1, around("public int of(int b) { return of(b, 1); } private int of(int b, int c) { return b + c; }"));
        finds(1, around("public static final class A { }"));
        finds(1, around("private final class A { }"));
        finds(2, around("public void a() { Runnable r = () -> { }; r.run(); }"));
        finds(2, around("public void a() { Runnable r = this::a; r.run(); }"));
        finds(2, around("public void a() { class B { } }"));
        finds(3, around("private double a;"));
        finds(3, around("private Object a;"));
        finds(3, around("private int[][] a;"));
        finds(3, around("public boolean a(String b) { return b == null; }"));
        finds(4, around("public int a(int b) { return Math.addExact(b, 1); }"));
        finds(4, around("public int a() { return Integer.MAX_VALUE; }"));
        finds(4, around("public long a() { return System.nanoTime(); }"));
        finds(4, around("private static final class A { } private A[] b = new A[2]; public void a() { System.arraycopy(b, 0, b, 1, 1); }"));
        finds(4, around("public int a(String b) { return b.indexOf(\"c\"); }"));
        finds(4, around("private static final String A = \"\\u00e9\";"));
        finds(4, around("@Deprecated public void a() { }"));
        finds(5, around("private static int a;"));
        finds(5, around("static { }"));
        finds(5, around("private static final int[] A = new int[2];"));
        finds(6, around("public int a() { throw new IllegalStateException(); }"));
        finds(6, around("public void a() { try { a(); } catch (RuntimeException e) { } }"));
        finds(6, around("public void a() { synchronized (this) { } }"));
        finds(6, around("public void a() { assert 1 > 0; }"));
        finds(6, around("public String toString() { return \"\"; }"));
        finds(6, around("public boolean a(String b, String c) { return b == c; }"));
        finds(7, around("public int a(int b) { return 1 / b; }"));
        finds(7, around("public int a(int b) { return b > 0 ? 0 : 1 % b; }"));
        finds(7, around("public int a(int b) { int c = 1; c %= b; return c; }"));
        finds(7, around("private final int n = 2; private final int[] a = new int[n - 3];"));
        finds(7, around("private static class A { } private static final class B extends A { } private B a(A b) { return (B) b; }"));
        finds(8, around("public int a() { return b(); } private int b() { return a(); }"));
        finds(9, around("public void a() { while (true) { } }"));
        finds(9, around("public void a(int b) { while (b < 3) { } }"));
        finds(9, around("public void a(int b) { do { b = -b; } while (b < 3); }"));
        finds(9, around("public void a(int b) { for (int i = 0; i < 3; b++) { } }"));
        finds(9, around("public void a() { for (int i = 0; i < 3;) { i++; } }"));
        finds(9, around("public void a() { for (int i = 0; i != 3; i++) { } }"));
        finds(10, around("public String a(String b) { return b + 1; }"));
        finds(11, around("public void a(int b, int c, int d, int e, int f, int g, int h, int i) { }"));
        finds(11, around("public void a() { b(); } private void b() { c(); } private void c() { d(); } private void d() { e(); }"
            + " private void e() { f(); } private void f() { g(); } private void g() { h(); } private void h() { i(); } private void i() { }"));
        finds(11, around("public void a() { " + "\n".repeat(60) + " }"));
        finds(12, around("public int a() { int[] b = new int[2]; return b[0]; }"));
        finds(12, around("private static final class A { } public void a() { A b = new A(); }"));
        finds(12, around("private int a = b(); private static int b() { return 1; }"));
    }

    private static void brokenByClass() throws IOException {
        finds(0, around("public int a() { return b; }"));
        finds(1, "package a; " + around(""));
        finds(1, "public class SealedLips { }");
        finds(4, "import java.util.Random; " + around(""));
        finds(11, around(classes(12)));
        finds(11, around(fields(21)));
    }

    private static String classes(int n) {
        StringBuilder all = new StringBuilder();
        for (int i = 1; i <= n; i++) {
            all.append("private static class A").append(i).append(" { } ");
        }
        return all.toString();
    }

    private static String fields(int n) {
        StringBuilder all = new StringBuilder();
        for (int i = 1; i <= n; i++) {
            all.append("private int a").append(i).append("; ");
        }
        return all.toString();
    }
}
