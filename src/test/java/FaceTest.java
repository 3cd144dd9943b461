import java.lang.reflect.Constructor;
import java.lang.reflect.Field;
import java.lang.reflect.Member;
import java.lang.reflect.Method;
import java.lang.reflect.Modifier;
import java.util.Set;
import java.util.TreeSet;

/** The public face: what the document lists, and nothing else that is not private. */
public final class FaceTest {
    private static final String IAE = " throws IllegalArgumentException";
    private static final String BOTH = IAE + " IllegalStateException";

    public static void main(String[] args) {
        members();
        constants();
        hidden();
        Check.end();
    }

    private static void members() {
        Check.sentence("The public face");
        Set<String> due = new TreeSet<>(Set.of(
                "public static final int NONE",
                "public RoundTrips()",
                "public int floor(int int)" + BOTH,
                "public int persons(int int)" + BOTH,
                "public int type(int int int int int)" + BOTH,
                "public long stops(int int int int)" + IAE,
                "public long highest(int int int int)" + IAE,
                "public long trip(int int int int)" + IAE,
                "public int compare(int int int int)" + IAE,
                "public long carried(int int)" + BOTH,
                "public int cheapest(int)" + BOTH,
                "public int split(int int int)" + BOTH,
                "public int out(int)" + IAE,
                "public int there(int int int)" + IAE,
                "public int crowd(int int)" + IAE));
        Check.same("the face", face().toString(), due.toString());
        Check.same("the class", Modifier.toString(RoundTrips.class.getModifiers()), "public final");
        Check.same("the class above it", RoundTrips.class.getSuperclass().getName(), "java.lang.Object");
        Check.answers("interfaces", () -> RoundTrips.class.getInterfaces().length, 0);
        Check.same("the package", RoundTrips.class.getPackageName(), "");
    }

    private static void constants() {
        Check.sentence("`NONE = -1`: There is none.");
        Check.answers("NONE", () -> RoundTrips.NONE, -1);
    }

    /** What the language's rules 1 and 5 ask of all that is not the face. */
    private static void hidden() {
        Check.sentence("The public face");
        Set<String> open = new TreeSet<>();
        for (Method method : RoundTrips.class.getDeclaredMethods()) {
            if (isOpen(method)) {
                open.add(method.getName());
            }
        }
        for (Method method : RoundTrips.class.getDeclaredMethods()) {
            boolean doubled = !isOpen(method) && open.contains(method.getName());
            Check.same(method + " has a name of the face", Boolean.toString(doubled), "false");
        }
        for (Class<?> inside : RoundTrips.class.getDeclaredClasses()) {
            int modifiers = inside.getModifiers();
            boolean fine = Modifier.isStatic(modifiers)
                    && !Modifier.isPublic(modifiers) && !Modifier.isProtected(modifiers);
            Check.same(inside + " is static and not open", Boolean.toString(fine), "true");
            staticFieldsAreFinal(inside);
        }
        staticFieldsAreFinal(RoundTrips.class);
    }

    private static void staticFieldsAreFinal(Class<?> owner) {
        for (Field field : owner.getDeclaredFields()) {
            boolean changes = Modifier.isStatic(field.getModifiers()) && !Modifier.isFinal(field.getModifiers());
            Check.same(field + " is static and not final", Boolean.toString(changes), "false");
        }
    }

    private static Set<String> face() {
        Set<String> found = new TreeSet<>();
        for (Field field : RoundTrips.class.getDeclaredFields()) {
            if (isOpen(field)) {
                found.add(modifiers(field) + field.getType().getSimpleName() + " " + field.getName());
            }
        }
        for (Constructor<?> made : RoundTrips.class.getDeclaredConstructors()) {
            if (isOpen(made)) {
                found.add(modifiers(made) + "RoundTrips(" + names(made.getParameterTypes()) + ")");
            }
        }
        for (Method method : RoundTrips.class.getDeclaredMethods()) {
            if (isOpen(method)) {
                found.add(modifiers(method) + method.getReturnType().getSimpleName() + " " + method.getName()
                        + "(" + names(method.getParameterTypes()) + ") throws "
                        + names(method.getExceptionTypes()));
            }
        }
        return found;
    }

    private static boolean isOpen(Member member) {
        return !Modifier.isPrivate(member.getModifiers());
    }

    /** Empty for what is package-visible. */
    private static String modifiers(Member member) {
        String text = Modifier.toString(member.getModifiers());
        return text.isEmpty() ? "" : text + " ";
    }

    private static String names(Class<?>[] classes) {
        StringBuilder text = new StringBuilder();
        for (Class<?> one : classes) {
            text.append(text.length() == 0 ? "" : " ").append(one.getSimpleName());
        }
        return text.toString();
    }
}
