import java.util.ArrayList;
import java.util.HashSet;
import java.util.List;
import java.util.Set;

/** What the tests have in common: counts the answers that are not due, and ends the run by them. */
final class Check {
    interface Call {
        Object answer();
    }

    private static final Set<String> tried = new HashSet<>();
    private static final List<String> broken = new ArrayList<>();

    private static int made = 0;
    private static int wrong = 0;
    private static String place = "";

    private Check() {
    }

    static void due(String what, Object got, Object want) {
        made++;
        if (!want.equals(got)) {
            wrong++;
            System.out.println(place + what + " answered " + got + ", due is " + want);
        }
    }

    static void holds(String what, boolean isSo) {
        due(what, isSo, true);
    }

    /** A test for one sentence of the document alone, or for one case of it. */
    static void sentence(String promise, String words, String tells, Runnable test) {
        String name = promise + ": " + words + ": " + tells;
        int madeBefore = made;
        int wrongBefore = wrong;
        place = name + ": ";
        try {
            test.run();
        } catch (RuntimeException e) {
            due("the test", "ended by " + e, "an end of its own");
        }
        holds("it checks something", made > madeBefore);
        holds("no other test has this name", tried.add(name));
        if (wrong > wrongBefore) {
            broken.add(name);
        }
        place = "";
    }

    /** The names of the sentences that were tried so far. */
    static Set<String> tried() {
        return tried;
    }

    /** The names of those that did not hold. */
    static List<String> broken() {
        return broken;
    }

    /**
     * What the call answers, or "throws.Name" of the exception's very class. An exception that
     * the library or the machine throws counts as another one: the class is to throw by itself.
     */
    static Object outcome(Call call) {
        try {
            return call.answer();
        } catch (RuntimeException e) {
            StackTraceElement[] trace = e.getStackTrace();
            boolean isOfLibrary = trace.length == 0 || trace[0].getClassName().startsWith("java")
                    || trace[0].getClassName().startsWith("jdk");
            return (isOfLibrary ? "library throws." : "throws.") + e.getClass().getSimpleName();
        }
    }

    static void outOfBounds(FairyDust x, String what, Call call) {
        refused(x, what, "IndexOutOfBoundsException", call);
    }

    static void badArgument(FairyDust x, String what, Call call) {
        refused(x, what, "IllegalArgumentException", call);
    }

    static void badState(FairyDust x, String what, Call call) {
        refused(x, what, "IllegalStateException", call);
    }

    private static void refused(FairyDust x, String what, String exception, Call call) {
        long before = x.digest();
        due(what, outcome(call), "throws." + exception);
        due("digest() behind the refused " + what, x.digest(), before);
    }

    static void end(String test) {
        System.out.println(test + ": " + made + " checks, " + wrong + " wrong");
        if (wrong != 0 || made == 0) {
            System.exit(1);
        }
    }
}
