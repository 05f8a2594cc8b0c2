import java.io.IOException;
import java.io.OutputStream;
import java.io.PrintStream;
import java.net.URL;
import java.net.URLClassLoader;
import java.nio.file.Files;
import java.nio.file.Path;
import java.util.Collection;
import java.util.Set;
import java.util.TreeSet;
import javax.tools.JavaCompiler;
import javax.tools.ToolProvider;

/**
 * Tries the tests of the sentences: each fault in Faults is put into the class alone, and a
 * sentence of the promise that it breaks has to be told as broken. A sentence that no fault
 * of its promise breaks is told too: its test might never fail.
 *
 * Arguments: the class's source, the folder of the compiled tests, a folder for what is made.
 */
public final class Mutants {
    private static final String[] TESTS = {
        "TermsTest", "WandsAndChildrenTest", "WhatThereIsTest", "WhatWouldBeTest", "RefusedTest"};

    private final String source;
    private final Path tests;
    private final Path build;
    private final JavaCompiler compiler = ToolProvider.getSystemJavaCompiler();
    private final Set<String> unbroken = new TreeSet<>();
    private int faults = 0;
    private int unfound = 0;

    private Mutants(Path source, Path tests, Path build) throws IOException {
        this.source = Files.readString(source);
        this.tests = tests;
        this.build = build;
    }

    public static void main(String[] args) throws Exception {
        Mutants mutants = new Mutants(Path.of(args[0]), Path.of(args[1]), Path.of(args[2]));
        mutants.tryWhole();
        for (Faults.Fault fault : new Faults().all()) {
            mutants.tryFault(fault);
        }
        mutants.tell();
    }

    private void tryWhole() throws Exception {
        boolean isWhole = compiles(source);
        Collection<?>[] found = tried();
        if (!isWhole || !found[1].isEmpty()) {
            throw new IllegalStateException("broken without any fault: " + found[1]);
        }
        for (Object name : found[0]) {
            unbroken.add((String) name);
        }
    }

    private void tryFault(Faults.Fault fault) throws Exception {
        faults++;
        String faulty = fault.putInto(source);
        if (faulty == null || !compiles(faulty)) {
            unfound++;
            System.out.println("DOES NOT FIT  " + fault);
            return;
        }
        boolean isFound = false;
        for (Object name : tried()[1]) {
            if (((String) name).startsWith(fault.promise() + ":")) {
                isFound = true;
                unbroken.remove(name);
            }
        }
        if (!isFound) {
            unfound++;
            System.out.println("NOT FOUND  " + fault);
        }
    }

    private Path folder() {
        return build.resolve("fault" + faults);
    }

    private boolean compiles(String text) throws IOException {
        Files.createDirectories(folder());
        Path file = folder().resolve("FairyDust.java");
        Files.writeString(file, text);
        OutputStream errors = OutputStream.nullOutputStream();
        return compiler.run(null, errors, errors, "-d", folder().toString(), file.toString()) == 0;
    }

    /** The sentences that are tried, and those that are broken, by the class that was compiled last. */
    private Collection<?>[] tried() throws Exception {
        URL[] places = {folder().toUri().toURL(), tests.toUri().toURL()};
        PrintStream shown = System.out;
        System.setOut(new PrintStream(OutputStream.nullOutputStream()));
        try (URLClassLoader loader = new URLClassLoader(places, ClassLoader.getPlatformClassLoader())) {
            for (String test : TESTS) {
                call(loader.loadClass(test), "sentences");
            }
            Class<?> check = loader.loadClass("Check");
            return new Collection<?>[] {(Collection<?>) call(check, "tried"), (Collection<?>) call(check, "broken")};
        } finally {
            System.setOut(shown);
        }
    }

    private static Object call(Class<?> type, String name) throws Exception {
        var method = type.getDeclaredMethod(name);
        method.setAccessible(true);
        return method.invoke(null);
    }

    private void tell() {
        for (String name : unbroken) {
            System.out.println("NEVER BROKEN  " + name);
        }
        System.out.println(faults + " faults, " + unfound + " not found; "
                + unbroken.size() + " sentences never broken");
        if (unfound > 0 || !unbroken.isEmpty()) {
            System.exit(1);
        }
    }
}
