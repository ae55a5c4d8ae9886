import java.lang.reflect.Constructor;
import java.lang.reflect.Field;
import java.lang.reflect.Member;
import java.lang.reflect.Method;
import java.lang.reflect.Modifier;
import java.util.Arrays;
import java.util.TreeSet;

/** The public face is the document's, and nothing else of the class can be seen. */
public final class FaceTest {
    private static final String BOUNDS = "IndexOutOfBoundsException";
    private static final String STATE = "IllegalStateException";
    private static final String ARGUMENT = "IllegalArgumentException";
    private static final String UNSUPPORTED = "UnsupportedOperationException";

    public static void main(String[] args) {
        TreeSet<String> due = new TreeSet<>(Arrays.asList(
                "NONE int",
                "new (int)",
                "unit(int) boolean",
                "units(int) boolean",
                "read() int",
                "polygon(int) int " + BOUNDS + " " + STATE,
                "corner(int long long) boolean " + BOUNDS + " " + STATE + " " + ARGUMENT,
                "text(int long long int) int " + BOUNDS + " " + STATE + " " + ARGUMENT,
                "run() int " + STATE + " " + UNSUPPORTED,
                "device(int int) int " + BOUNDS + " " + STATE,
                "size(int int) long " + BOUNDS + " " + STATE,
                "pin(int int) int " + STATE + " " + BOUNDS,
                "net(int long long) int " + BOUNDS + " " + STATE,
                "named(int) int " + STATE + " " + BOUNDS,
                "twice(int) int " + BOUNDS + " " + STATE,
                "bad(int) int " + BOUNDS + " " + STATE,
                "joined(int) int " + STATE + " " + BOUNDS,
                "count(int) int " + BOUNDS));
        TreeSet<String> got = new TreeSet<>();
        for (Field f : DeviceFind.class.getDeclaredFields()) {
            if (isSeen(f)) {
                got.add(f.getName() + " " + f.getType());
            }
        }
        for (Constructor<?> c : DeviceFind.class.getDeclaredConstructors()) {
            if (isSeen(c)) {
                got.add("new (" + names(c.getParameterTypes()) + ")");
            }
        }
        for (Method m : DeviceFind.class.getDeclaredMethods()) {
            if (isSeen(m)) {
                String thrown = names(m.getExceptionTypes());
                got.add(m.getName() + "(" + names(m.getParameterTypes()) + ") " + m.getReturnType()
                        + (thrown.isEmpty() ? "" : " " + thrown));
            }
        }
        Check.same("the face", due, got);
        Check.same("NONE", -1, DeviceFind.NONE);
        int modifiers = DeviceFind.class.getModifiers();
        Check.same("public and final", true, Modifier.isPublic(modifiers) && Modifier.isFinal(modifiers));
        for (Class<?> inside : DeviceFind.class.getDeclaredClasses()) {
            Check.same("static " + inside, true, Modifier.isStatic(inside.getModifiers()));
        }
        Check.end();
    }

    private static boolean isSeen(Member m) {
        return !m.isSynthetic() && !Modifier.isPrivate(m.getModifiers());
    }

    private static String names(Class<?>[] types) {
        StringBuilder all = new StringBuilder();
        for (Class<?> type : types) {
            all.append(all.length() == 0 ? "" : " ").append(type.getSimpleName());
        }
        return all.toString();
    }
}
