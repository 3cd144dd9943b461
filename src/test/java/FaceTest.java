import java.lang.reflect.Constructor;
import java.lang.reflect.Field;
import java.lang.reflect.Member;
import java.lang.reflect.Method;
import java.lang.reflect.Modifier;
import java.util.Set;
import java.util.TreeSet;

/** The public face: what the document lists, and nothing else that is not private. */
public final class FaceTest {
    private static final String IAE = " throws IllegalArgumentException";
    private static final String BOTH = IAE + " IllegalStateException";

    public static void main(String[] args) {
        Set<String> due = new TreeSet<>(Set.of(
                "int NONE",
                "RoundTrips()",
                "int floor(int int)" + BOTH,
                "int persons(int int)" + BOTH,
                "int type(int int int int int)" + BOTH,
                "long stops(int int int int)" + IAE,
                "long highest(int int int int)" + IAE,
                "long trip(int int int int)" + IAE,
                "int compare(int int int int)" + IAE,
                "long carried(int int)" + BOTH,
                "int cheapest(int)" + BOTH,
                "int split(int int int)" + BOTH,
                "int out(int)" + IAE,
                "int there(int int int)" + IAE,
                "int crowd(int int)" + IAE));
        Check.same("the face", face().toString(), due.toString());
        Check.same("the class is public and final",
                Modifier.toString(RoundTrips.class.getModifiers()), "public final");
        Check.answers("NONE", () -> RoundTrips.NONE, -1);
        Check.end();
    }

    private static Set<String> face() {
        Set<String> found = new TreeSet<>();
        for (Field field : RoundTrips.class.getDeclaredFields()) {
            if (isOpen(field)) {
                found.add(field.getType().getSimpleName() + " " + field.getName());
            }
        }
        for (Constructor<?> made : RoundTrips.class.getDeclaredConstructors()) {
            if (isOpen(made)) {
                found.add("RoundTrips(" + names(made.getParameterTypes()) + ")");
            }
        }
        for (Method method : RoundTrips.class.getDeclaredMethods()) {
            if (isOpen(method)) {
                found.add(method.getReturnType().getSimpleName() + " " + method.getName()
                        + "(" + names(method.getParameterTypes()) + ") throws "
                        + names(method.getExceptionTypes()));
            }
        }
        return found;
    }

    private static boolean isOpen(Member member) {
        return !Modifier.isPrivate(member.getModifiers());
    }

    private static String names(Class<?>[] classes) {
        StringBuilder text = new StringBuilder();
        for (Class<?> one : classes) {
            text.append(text.length() == 0 ? "" : " ").append(one.getSimpleName());
        }
        return text.toString();
    }
}
