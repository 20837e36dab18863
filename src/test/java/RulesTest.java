import java.io.IOException;
import java.nio.file.Files;
import java.nio.file.Path;
import java.util.List;

/** The class keeps the rules of ../shared/LANGUAGE.md; and what looks for them finds each rule broken. */
public final class RulesTest {
    private static final Path SOURCES = Path.of("src/main/java");

    public static void main(String[] args) throws IOException {
        theProgram();
        ofFilesAndClasses();
        ofTypesAndLibrary();
        ofStaticFields();
        ofExceptions();
        ofTheMachine();
        ofLoopsAndSizes();
        ofGoodPrograms();
        Due.end();
    }

    private static void theProgram() throws IOException {
        Due.is("the program is one file", Files.walk(SOURCES).filter(Files::isRegularFile).count(), 1);
        List<String> broken = Rules.broken("SpiceQuay", Files.readString(SOURCES.resolve("SpiceQuay.java")));
        for (String one : broken) {
            System.out.println("SpiceQuay.java: " + one);
        }
        Due.is("what breaks the rules in SpiceQuay.java", broken.size(), 0);
    }

    private static void ofFilesAndClasses() throws IOException {
        breaksAlone(1, "package quays; public final class X { }");
        breaksAlone(2, "public final class X { } class Y { }");
        breaksAlone(1, "public class X { }");
        breaks(1, "public static final class Y { }");
        breaks(1, "public int f() { return 0; } static final class Y { private int f(int a) { return a; } }");
        breaks(2, "final class Y { }");
        breaks(2, "interface F { int f(int a); } int g(F f) { return f.f(1); } int h() { return g(a -> a); }");
        breaks(2, "interface F { int f(int a, int b); } int g(F f) { return f.f(1, 2); } int h() { return g(Math::max); }");
        breaks(2, "int f() { class Y { } return 0; }");
    }

    private static void ofTypesAndLibrary() throws IOException {
        breaks(3, "int f(Object a) { return 0; }");
        breaks(3, "int f(int[][][] a) { return 0; }");
        breaks(3, "int f(String[] a) { return 0; }");
        breaks(3, "boolean[][] f(boolean[][] a) { return a; }");
        breaksAlone(4, "import java.util.HashMap; public final class X { }");
        breaksAlone(4, "import java.util.*; public final class X { }");
        breaks(4, "int f(String a) { return a.lastIndexOf('b'); }");
        breaks(4, "double f(double a) { return Math.abs(a); }");
        breaks(4, "int f(int a) { return Math.addExact(a, 1); }");
        breaks(4, "long f() { return System.nanoTime(); }");
        breaks(4, "int f() { return new java.util.Random().nextInt(); }");
        breaks(4, "String f() { return \"\\u00e9\"; }");
    }

    private static void ofStaticFields() throws IOException {
        breaks(5, "private static int a = 1;");
        breaks(5, "private static final double A = 1;");
        breaks(5, "private static final StringBuilder A = new StringBuilder();");
        breaks(5, "private static final int A; static { A = 1; }");
    }

    private static void ofExceptions() throws IOException {
        breaks(6, "int f(String a) { throw new IllegalStateException(a); }");
        breaks(6, "int f() { throw new NullPointerException(); }");
        breaks(6, "int f() { throw new Error(); }");
        breaks(6, "X() { throw new IllegalStateException(); }");
        breaks(6, "int g() { return 0; } int f() { try { return g(); } catch (NullPointerException e) { return 0; } }");
        breaks(6, "int g() { return 0; } int f() { try { return g(); } catch (Throwable e) { return 0; } }");
        breaks(6, "int g() { return 0; } int f() { try { return g(); } finally { g(); } }");
        breaks(6, "int f() { try { throw new IllegalStateException(); } catch (IllegalStateException e) { return 0; } }");
        breaks(6, "int g() { return 0; } String f() { try { g(); } catch (RuntimeException e) { return e.getMessage(); } return null; }");
        breaks(6, "int f() throws Exception { return 0; }");
        breaks(6, "static final class Y extends RuntimeException { }");
        breaks(6, "int f(int a) { assert a > 0; return a; }");
        breaks(6, "int f(int a) { synchronized (this) { return a; } }");
        breaks(6, "synchronized int f(int a) { return a; }");
        breaks(6, "boolean f(String a, String b) { return a == b; }");
        breaks(6, "boolean f(Integer a, Integer b) { return a != b; }");
        breaks(6, "public String toString() { return null; }");
        breaks(6, "interface A { } static final class B implements A { } B f(A a) { return (B) a; }");
    }

    private static void ofTheMachine() throws IOException {
        breaks(7, "int f(int[] a, int i) { return a[i]; }");
        breaks(7, "int f(int[] a, int[] b, int i) { return i < b.length ? a[i] : 0; }");
        breaks(7, "int f(int a, int b) { return a / b; }");
        breaks(7, "int f(int a, int b) { return a % b; }");
        breaks(7, "int f(int a) { return a / 0; }");
        breaks(7, "int f(int a, int b) { a /= b; return a; }");
        breaks(7, "private int[] a;");
        breaks(7, "private final int[] a; X() { int b = 2; a = new int[b]; }");
    }

    private static void ofLoopsAndSizes() throws IOException {
        breaks(8, "private static int f(int a) { return a == 0 ? 0 : f(a - 1); }");
        breaks(8, "int f(int a) { return a == 0 ? 0 : g(a - 1); } int g(int a) { return f(a); }");
        breaks(9, "int f() { while (true) { } }");
        breaks(9, "int f(int a) { for (;;) { return a; } }");
        breaks(9, "int f(boolean a) { do { } while (a); return 0; }");
        breaks(10, "String f(String a) { return a + 1; }");
        breaks(10, "String f(String a) { a += 1; return a; }");
        breaks(10, "int f(String a) { switch (a) { case \"b\": return 1; default: return 0; } }");
        breaks(11, "int f(int a, int b, int c, int d, int e, int f, int g, int h) { return a; }");
        breaks(11, "int f(int a) {" + "\n".repeat(60) + "return a; }");
        breaks(11, numbered("static final class Y% { }", 12));
        breaks(11, numbered("private int a%;", 21));
        breaks(11, "int f0() { return 0; }" + numbered("int f%() { return f#(); }", 8));
        breaks(12, "int[] f() { return new int[] {1}; }");
        breaks(12, "StringBuilder f() { return new StringBuilder(); }");
        breaks(12, "static final class Y { } Y f() { return new Y(); }");
        breaks(12, "static final class Y { } private final int a; X() { int b = 0; for (int i = 0; i < 3; i++) { new Y(); } a = b; }");
    }

    /** What the rules allow is not told to be broken. */
    private static void ofGoodPrograms() throws IOException {
        isFine("");
        isFine("private static final int A = 1; private static final String B = \"b\"; private static final int[] C = {1, 2};");
        isFine("private final int[] a; X() { a = new int[7]; } int f(int i) { return i >= 0 && i < a.length ? a[i] : 0; }");
        isFine("int f(int a, int b) { return b == 0 ? 0 : a / b; }");
        isFine("int f(int a) { throw new IllegalStateException(\"why\"); }");
        isFine("int g() { return 0; } int f() { try { return g(); } catch (IllegalStateException e) { return 0; } }");
        isFine("interface A { } static final class B implements A { } B f(A a) { return a instanceof B ? (B) a : null; }");
        isFine("private static int f(int a, int depth) { return depth > 7 ? 0 : f(a - 1, depth + 1); }");
        isFine("int f0() { return 0; }" + numbered("int f%() { return f#(); }", 7));
        isFine(numbered("static final class Y% { }", 11));
        isFine(numbered("private int a%;", 20));
        isFine("int f(int a, int b, int c, int d, int e, int f, int g) { return Math.max(a, Integer.bitCount(b)); }");
        isFine("int[] f(int[] a) { return a.clone(); } boolean f(String a) { return a.equals(\"b\"); }");
    }

    /** The text again and again, with 1 and so on for %, and the number ahead of it for #. */
    private static String numbered(String text, int times) {
        StringBuilder all = new StringBuilder();
        for (int i = 1; i <= times; i++) {
            all.append(text.replace("%", "" + i).replace("#", "" + (i - 1)));
        }
        return all.toString();
    }

    private static void breaks(int rule, String members) throws IOException {
        breaksAlone(rule, "public final class X { " + members + " }");
    }

    private static void breaksAlone(int rule, String text) throws IOException {
        boolean found = false;
        for (String one : Rules.broken("X", text)) {
            found |= one.startsWith("rule " + rule + ",");
        }
        Due.is("rule " + rule + " is found broken (1 yes, 0 no) in " + text, found ? 1 : 0, 1);
    }

    private static void isFine(String members) throws IOException {
        List<String> broken = Rules.broken("X", "public final class X { " + members + " }");
        Due.is("what breaks the rules, " + broken + ", in " + members, broken.size(), 0);
    }
}
