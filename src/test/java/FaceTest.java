import java.lang.reflect.Constructor;
import java.lang.reflect.Field;
import java.lang.reflect.Method;
import java.lang.reflect.Modifier;
import java.util.Set;
import java.util.TreeSet;

/** The class shows the document's face and nothing else (LANGUAGE.md, rules 1 and 5). */
public final class FaceTest {
    private static final String BOUNDS = " IndexOutOfBoundsException";
    private static final String ARGUMENT = " IllegalArgumentException";
    private static final String STATE = " IllegalStateException";
    private static final String[] FACE = {
        "int addWand(int,int)" + ARGUMENT + STATE,
        "int addChild(int,int)" + BOUNDS + ARGUMENT + STATE,
        "int give(int,int)" + BOUNDS,
        "int setFall(int,int)" + BOUNDS + ARGUMENT,
        "boolean wish(int,int)" + BOUNDS + ARGUMENT,
        "int forgive(int)" + BOUNDS,
        "int pass(int)" + ARGUMENT,
        "int hour()",
        "int day()",
        "int wands()",
        "int children()",
        "int granted()",
        "int denied()",
        "int punished()",
        "int dustIn(int)" + BOUNDS,
        "int users(int)" + BOUNDS,
        "int wandOf(int)" + BOUNDS,
        "int burstOf(int)" + BOUNDS,
        "int punishedFor(int)" + BOUNDS,
        "int marksOf(int)" + BOUNDS,
        "int nextPunishment(int)" + BOUNDS,
        "int daysToBirthday(int)" + BOUNDS,
        "int greatestWish(int)" + BOUNDS,
        "int hoursUntil(int,int)" + BOUNDS + ARGUMENT,
        "int grantedIn(int,int,int)" + BOUNDS + ARGUMENT,
        "int fallWanted(int,int)" + BOUNDS + ARGUMENT,
        "int hoursUntilFull(int)" + BOUNDS,
        "int bestChild(int)" + ARGUMENT,
        "double share()",
        "long digest()",
    };

    public static void main(String[] args) {
        Class<?> face = FairyDust.class;
        Check.due("the class's modifiers", Modifier.toString(face.getModifiers()), "public final");
        Constructor<?>[] constructors = face.getDeclaredConstructors();
        Check.due("constructors", constructors.length, 1);
        Check.due("the constructor", constructors[0].toString(), "public FairyDust()");
        Check.due("the methods", shown(face), new TreeSet<>(Set.of(FACE)));
        checkPrivateNames(face);
        checkFields(face, true);
        for (Class<?> inside : face.getDeclaredClasses()) {
            Check.holds(inside + " is static", Modifier.isStatic(inside.getModifiers()));
            checkFields(inside, false);
        }
        Check.end("FaceTest");
    }

    private static Set<String> shown(Class<?> face) {
        Set<String> shown = new TreeSet<>();
        for (Method method : face.getDeclaredMethods()) {
            if (!Modifier.isPrivate(method.getModifiers())) {
                shown.add(told(method));
            }
        }
        return shown;
    }

    private static String told(Method method) {
        StringBuilder told = new StringBuilder(method.getReturnType().getName());
        told.append(' ').append(method.getName()).append('(');
        String comma = "";
        for (Class<?> type : method.getParameterTypes()) {
            told.append(comma).append(type.getName());
            comma = ",";
        }
        told.append(')');
        for (Class<?> type : method.getExceptionTypes()) {
            told.append(' ').append(type.getSimpleName());
        }
        Check.due(method + " is public alone", method.getModifiers(), Modifier.PUBLIC);
        return told.toString();
    }

    private static void checkPrivateNames(Class<?> face) {
        for (Method method : face.getDeclaredMethods()) {
            for (Method other : face.getDeclaredMethods()) {
                boolean isTwice = Modifier.isPrivate(method.getModifiers())
                        && Modifier.isPublic(other.getModifiers()) && method.getName().equals(other.getName());
                Check.holds(method + " does not bear a public name", !isTwice);
            }
        }
    }

    private static void checkFields(Class<?> type, boolean isFace) {
        for (Field field : type.getDeclaredFields()) {
            int modifiers = field.getModifiers();
            Check.holds(field + " is private", !isFace || Modifier.isPrivate(modifiers));
            Check.holds(field + " is final if static", !Modifier.isStatic(modifiers) || Modifier.isFinal(modifiers));
        }
    }
}
