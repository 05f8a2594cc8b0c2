import java.lang.reflect.InvocationTargetException;
import java.lang.reflect.Method;
import java.lang.reflect.Modifier;
import java.nio.file.Files;
import java.nio.file.Path;
import java.util.HashMap;
import java.util.Map;
import java.util.regex.Matcher;
import java.util.regex.Pattern;

/** README.md tells the truth: each line of its example answers what stands behind it. */
public final class ReadmeTest {
    private static final Pattern EXAMPLE = Pattern.compile("```java\n(.*?)```", Pattern.DOTALL);
    private static final Pattern LINE = Pattern.compile(
            "(?:int (\\w+) = )?fairy\\.(\\w+)\\(([^)]*)\\); *// (throws \\w+|[^ :]+).*");
    private static final String FIRST = "FairyDust fairy = new FairyDust();";

    private final FairyDust fairy = new FairyDust();
    private final Map<String, Object> named = new HashMap<>();

    public static void main(String[] args) throws Exception {
        String readme = Files.readString(Path.of("README.md"));
        Matcher example = EXAMPLE.matcher(readme);
        Check.holds("README.md has an example", example.find());
        String[] lines = example.group(1).split("\n");
        Check.due("its first line", lines[0], FIRST);
        ReadmeTest test = new ReadmeTest();
        for (int i = 1; i < lines.length; i++) {
            test.tryLine(lines[i]);
        }
        for (Method method : FairyDust.class.getDeclaredMethods()) {
            if (Modifier.isPublic(method.getModifiers())) {
                Check.holds("README.md tells of " + method.getName(), readme.contains("| `" + head(method)));
            }
        }
        Check.end("ReadmeTest");
    }

    private static String head(Method method) {
        return method.getName() + (method.getParameterCount() == 0 ? "()`" : "(");
    }

    private void tryLine(String text) throws Exception {
        Matcher line = LINE.matcher(text);
        Check.holds("the line \"" + text + "\" tells its answer", line.matches());
        Object answer = answer(line.group(2), line.group(3).split(", *"));
        Check.due(text, String.valueOf(answer), line.group(4));
        if (line.group(1) != null) {
            named.put(line.group(1), answer);
        }
    }

    private Object answer(String name, String[] words) throws Exception {
        for (Method method : FairyDust.class.getMethods()) {
            if (method.getName().equals(name)) {
                try {
                    return method.invoke(fairy, values(words, method.getParameterCount()));
                } catch (InvocationTargetException e) {
                    return "throws " + e.getCause().getClass().getSimpleName();
                }
            }
        }
        return "no such method";
    }

    private Object[] values(String[] words, int count) {
        Object[] values = new Object[count];
        for (int i = 0; i < count; i++) {
            values[i] = named.containsKey(words[i]) ? named.get(words[i]) : Integer.valueOf(words[i]);
        }
        return values;
    }
}
