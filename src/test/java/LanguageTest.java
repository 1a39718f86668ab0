import com.sun.source.tree.CompilationUnitTree;
import com.sun.source.util.JavacTask;
import com.sun.source.util.Trees;
import java.io.IOException;
import java.net.URI;
import java.nio.charset.StandardCharsets;
import java.nio.file.Files;
import java.nio.file.Path;
import java.util.Arrays;
import java.util.List;
import java.util.Set;
import java.util.TreeSet;
import java.util.stream.Collectors;
import javax.tools.JavaFileObject;
import javax.tools.SimpleJavaFileObject;
import javax.tools.ToolProvider;

/** The class keeps to ../shared/LANGUAGE.md, as far as a look at its source can tell. */
public final class LanguageTest {
    private static final Path PROGRAM = Path.of("src/main/java/FingerPosts.java");
    private static final Set<String> FACE = Set.of("put", "take", "merge", "cut", "turn", "miles",
        "count", "sign", "walk", "step", "at", "range", "near", "far", "unlike", "would", "advise",
        "mean", "digest");

    private final Checks checks = new Checks();

    private static final class Source extends SimpleJavaFileObject {
        private final String text;

        Source(String text) {
            super(URI.create("string:///FingerPosts.java"), JavaFileObject.Kind.SOURCE);
            this.text = text;
        }

        @Override
        public CharSequence getCharContent(boolean ignoreEncodingErrors) {
            return text;
        }
    }

    private static Set<String> faultsOf(String text) throws IOException {
        JavacTask task = (JavacTask) ToolProvider.getSystemJavaCompiler().getTask(
            null, null, said -> { }, List.of("-proc:none", "--release", "17"), null,
            List.of(new Source(text)));
        CompilationUnitTree unit = task.parse().iterator().next();
        task.analyze();
        return new SourceRules(Trees.instance(task), unit, FACE).faults();
    }

    private static String rulesOf(String text) {
        try {
            return faultsOf(text).stream().map(fault -> fault.substring(0, fault.indexOf(':')))
                .collect(Collectors.toCollection(TreeSet::new)).toString();
        } catch (IOException e) {
            throw new IllegalStateException(e);
        }
    }

    /** A rule must be found broken by these members of the class, or none must be ("[]"). */
    private void members(String due, String members) {
        String text = "public final class FingerPosts {\n" + members + "\n}\n";
        checks.same(members, due, () -> rulesOf(text));
    }

    private void badSources() {
        members("[]", "private final int[] a = new int[5]; public int at(int k) { return k / 2; }");
        members("[1]", "private int far() { return 1; }");
        members("[1]", "private static class A { int put() { return 1; } }");
        members("[1]", "public static class A { }");
        members("[1]", "private class A { }");
        members("[2]", "private static record A(int b) { }");
        members("[2, 3]", "private Runnable r = () -> { };");
        members("[2, 3]", "private Runnable r = FingerPosts::f; private static void f() { }");
        members("[3]", "private java.util.Map<Integer, Integer> a;");
        members("[3]", "private int[][] a;");
        members("[4]", "private int f(int a) { return Math.addExact(a, 1); }");
        members("[4]", "private double f(double a) { return Math.max(a, 1.0); }");
        members("[4]", "private void f() { System.gc(); }");
        members("[5]", "private static int calls = 0;");
        members("[5]", "private static final FingerPosts A = null;");
        members("[5]", "static { }");
        members("[6]", "private void f() { throw new NullPointerException(); }");
        members("[6]", "private void f() { throw null; }");
        members("[6]", "public FingerPosts() { throw new IllegalStateException(); }");
        members("[6]", "private void f() { try { f0(); } finally { f0(); } } private void f0() { }");
        members("[6]", "private void f(int a) { assert a > 0; }");
        members("[6]", "private void f() { synchronized (this) { f0(); } } private void f0() { }");
        members("[7]", "private int f(int[] a) { return a[0]; }");
        members("[7]", "private int f(int a, int b) { return a / b; }");
        members("[7]", "private int f(int a, int b) { return a % b; }");
        members("[7]", "private int f(int a, int b) { a /= b; return a; }");
        members("[7]", "private int f(int a) { return a / 0; }");
        members("[7]", "private FingerPosts f(FingerPosts b) { return (FingerPosts) b; }");
        members("[8]", "private void f() { f(); }");
        members("[8]", "private void f() { g(); } private void g() { f(); }");
        members("[10]", "private boolean f(int a) { return (\"\" + a) == null; }");
        members("[11]", "private void f(int a, int b, int c, int d, int e, int g, int h, int i) { }");
        members("[11]", "private void f() { " + "\n".repeat(60) + "}");
        members("[11]", "private int " + names("a", 21) + ";");
        members("[11]", Arrays.stream(names("C", 12).split(", "))
            .map(name -> "private static class " + name + " { }").collect(Collectors.joining("\n")));
        members("[11]", chain(9));
        members("[]", chain(8));
        members("[12]", "private int[] f() { return new int[3]; }");
        members("[12]", "private static class A { } private A f() { return new A(); }");
        checks.same("a package", "[1]", () -> rulesOf("package a; public final class FingerPosts { }"));
        checks.same("a class beside", "[1]",
            () -> rulesOf("public final class FingerPosts { } final class A { }"));
        checks.same("not final", "[1]", () -> rulesOf("public class FingerPosts { }"));
    }

    private static String names(String start, int many) {
        StringBuilder names = new StringBuilder(start).append(0);
        for (int k = 1; k < many; k++) {
            names.append(", ").append(start).append(k);
        }
        return names.toString();
    }

    /** Methods each of which calls the next one. */
    private static String chain(int many) {
        StringBuilder methods = new StringBuilder();
        for (int k = 1; k < many; k++) {
            methods.append("private void f").append(k).append("() { f").append(k + 1).append("(); }\n");
        }
        return methods.append("private void f").append(many).append("() { }").toString();
    }

    private void theProgram() throws IOException {
        String text = Files.readString(PROGRAM, StandardCharsets.UTF_8);
        Set<String> faults = faultsOf(text);
        checks.same("faults of the program", Set.of(), () -> faults);
        checks.same("signs beyond 126", 0L, () -> text.chars().filter(sign -> sign > 126).count());
        for (String words : new String[] {"villages", "what there is", "what would be"}) {
            checks.same("the interface says: ---- " + words, true,
                () -> text.contains("// ---- " + words + "\n"));
        }
    }

    public static void main(String[] args) throws IOException {
        LanguageTest test = new LanguageTest();
        test.badSources();
        test.theProgram();
        test.checks.end("LanguageTest");
    }
}
