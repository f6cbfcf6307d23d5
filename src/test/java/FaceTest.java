import java.lang.reflect.Constructor;
import java.lang.reflect.Field;
import java.lang.reflect.Method;
import java.lang.reflect.Modifier;
import java.util.Arrays;
import java.util.Set;
import java.util.TreeSet;

/** The section "The public face": all of it, and nothing more that can be seen from outside. */
public final class FaceTest {
    private static final Set<String> METHODS = new TreeSet<>(Arrays.asList(
            "int put(int, int, int)", "int get(int, int)", "int pump()", "boolean drop(int)",
            "int fuse(int, int)", "int crash(int)", "int recover(int)", "int promote(int)",
            "int rejoin(int)", "int told(int, int)", "int entry(int, int, int)",
            "int message(int, int)", "int same()"));

    public static void main(String[] args) {
        Due due = new Due("FaceTest");
        due.is("BAD", TwinLog.BAD, -1);
        due.is("NOT_SO", TwinLog.NOT_SO, -2);
        due.is("FULL", TwinLog.FULL, -3);
        due.is("DOWN", TwinLog.DOWN, -4);
        int modifiers = TwinLog.class.getModifiers();
        due.is("public and final", Modifier.isPublic(modifiers) && Modifier.isFinal(modifiers), true);
        constants(due);
        constructors(due);
        methods(due);
        nestedClasses(due);
        due.end();
    }

    private static void constants(Due due) {
        int visible = 0;
        for (Field f : TwinLog.class.getDeclaredFields()) {
            int m = f.getModifiers();
            due.is("a static field is final: " + f.getName(), !Modifier.isStatic(m) || Modifier.isFinal(m), true);
            if (!Modifier.isPrivate(m)) {
                visible++;
                due.is("a public static int: " + f.getName(),
                        Modifier.isPublic(m) && Modifier.isStatic(m) && f.getType() == int.class, true);
            }
        }
        due.is("constants of the face", visible, 4);
    }

    private static void constructors(Due due) {
        Constructor<?>[] all = TwinLog.class.getDeclaredConstructors();
        due.is("constructors", all.length, 1);
        due.is("public, without parameters",
                Modifier.isPublic(all[0].getModifiers()) && all[0].getParameterCount() == 0, true);
    }

    private static void methods(Due due) {
        Set<String> seen = new TreeSet<>();
        Set<String> publicNames = new TreeSet<>();
        for (Method m : TwinLog.class.getDeclaredMethods()) {
            if (Modifier.isPublic(m.getModifiers())) {
                publicNames.add(m.getName());
            }
            if (!Modifier.isPrivate(m.getModifiers())) {
                seen.add(signature(m));
                due.is("public and of the object: " + m.getName(),
                        Modifier.isPublic(m.getModifiers()) && !Modifier.isStatic(m.getModifiers()), true);
            }
        }
        due.is("the methods are " + seen, seen.equals(METHODS), true);
        for (Method m : TwinLog.class.getDeclaredMethods()) {
            due.is("no private method is named like " + m.getName(),
                    Modifier.isPrivate(m.getModifiers()) && publicNames.contains(m.getName()), false);
        }
    }

    private static String signature(Method m) {
        String types = Arrays.toString(m.getParameterTypes());
        return m.getReturnType() + " " + m.getName() + "(" + types.substring(1, types.length() - 1) + ")";
    }

    private static void nestedClasses(Due due) {
        for (Class<?> c : TwinLog.class.getDeclaredClasses()) {
            int m = c.getModifiers();
            due.is("static, not public or protected: " + c.getName(),
                    Modifier.isStatic(m) && !Modifier.isPublic(m) && !Modifier.isProtected(m), true);
        }
    }
}
