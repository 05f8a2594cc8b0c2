import java.nio.file.Files;
import java.nio.file.Path;
import java.util.List;

/**
 * The class's text keeps to LANGUAGE.md, as far as a text can show it (FaceTest looks at rule 1
 * and at static fields). Each rule is tried as well: a line that breaks it has to be found.
 */
public final class LanguageTest {
    private static final String CLASS = "src/main/java/FairyDust.java";

    private final String source;

    private LanguageTest(String source) {
        this.source = source;
    }

    public static void main(String[] args) throws Exception {
        String source = Files.readString(Path.of(CLASS));
        Check.due("what breaks LANGUAGE.md in " + CLASS, Language.faultsIn(source), List.of());
        LanguageTest test = new LanguageTest(source);
        test.syntax();
        test.library();
        test.exceptions();
        test.sizes();
        test.room();
        Check.end("LanguageTest");
    }

    private void syntax() {
        found("2 LAMBDA_EXPRESSION", "private static void bad() { Runnable r = () -> { }; }");
        found("2 MEMBER_REFERENCE", "private static void bad() { Runnable r = FairyDust::new; }");
        found("6 TRY with finally", "private static int bad() { try { return 1; } finally { mixed(0, 0); } }");
        found("6 SYNCHRONIZED", "private void bad() { synchronized (this) { hour++; } }");
        found("6 ASSERT", "private void bad() { assert hour > 0; }");
        found("10 PLUS of texts", "private static String bad(int x) { return \"x\" + x; }");
        found("10 PLUS_ASSIGNMENT of texts", "private static void bad(String x) { x += 1; }");
        found("5 static block", "static { mixed(0, 0); }");
        found("5 bad is static and not final", "private static int bad;");
        found("3 double %", "private static double bad(double x) { return x % 2; }");
    }

    private void library() {
        found("4 java.lang.Math.addExact", "private static int bad() { return Math.addExact(1, 2); }");
        found("4 java.lang.Math.sqrt", "private static double bad() { return Math.sqrt(2); }");
        found("3 java.lang.Math.max of double", "private static double bad() { return Math.max(1.0, 2); }");
        found("13 java.lang.System.nanoTime", "private static long bad() { return System.nanoTime(); }");
        found("4 java.util.ArrayList.contains", "private boolean bad() { return wands.contains(trialWand); }");
        found("4 new java.util.HashMap", "private static void bad() { new java.util.HashMap<String, String>(); }");
    }

    private void exceptions() {
        found("6 throw of what is not made there",
                "private static void bad(RuntimeException e) { throw e; }");
        found("6 throw new NullPointerException",
                "private static void bad() { throw new NullPointerException(\"x\"); }");
        found("6 throw without a written text",
                "private static void bad(String text) { throw new RuntimeException(text); }");
        found("6 throw in a constructor",
                "private static final class Bad { private Bad() { throw new RuntimeException(\"x\"); } }");
        found("6 catch of NullPointerException",
                "private static int bad() { try { return 1; } catch (NullPointerException e) { return 0; } }");
        found("6 toString of its own",
                "private static final class Bad { public String toString() { return \"x\"; } }");
    }

    private void sizes() {
        found("11 bad has 8 parameters",
                "private static void bad(int a, int b, int c, int d, int e, int f, int g, int h) { }");
        found("11 bad has 61 lines", "private static void bad() {" + "\n".repeat(60) + "}");
        found("8 bad calls itself", "private static int bad(int x) { return x > 0 ? bad(x - 1) : 0; }");
        found("11 bad goes 9 deep", "private long bad() { return digest(); }");
        found("11 13 classes", "private static final class Bad# { }\n".repeat(10));
        found("11 Bad has 21 fields", "private static final class Bad {" + "private int bad#;".repeat(21) + "}");
    }

    private void room() {
        found("12 new FairyDust.Wand in bad", "private Wand bad() { return new Wand(0, 1, 1); }");
        found("12 new array in bad", "private static int[] bad() { return new int[3]; }");
    }

    /** The class with that line in it is found to break the rule by just these words. */
    private void found(String fault, String line) {
        int end = source.lastIndexOf('}');
        List<String> faults = Language.faultsIn(source.substring(0, end) + numbered(line) + "\n}\n");
        Check.holds("in " + line.strip() + " is found: " + fault + ", of " + faults, faults.contains(fault));
    }

    /** Each # becomes a number of its own. */
    private static String numbered(String line) {
        StringBuilder numbered = new StringBuilder();
        int number = 0;
        for (char sign : line.toCharArray()) {
            numbered.append(sign == '#' ? String.valueOf(number++) : String.valueOf(sign));
        }
        return numbered.toString();
    }
}
