import java.lang.reflect.Constructor;
import java.lang.reflect.Field;
import java.lang.reflect.Method;
import java.lang.reflect.Modifier;
import java.util.Arrays;
import java.util.Set;
import java.util.TreeSet;

/** The class shows the face of the document and nothing beside it. */
public final class FaceTest {
    private static final Set<String> FACE = new TreeSet<>(Arrays.asList(
        "public static final int BAD = -100",
        "public static final int OK = 0",
        "public CoercionDesk()",
        "public int set(int, int)",
        "public int cast(int, int)",
        "public int type()",
        "public int kind()",
        "public int raw()",
        "public int call(int, int)",
        "public int resultKind()",
        "public int result()",
        "public boolean agree(int, int)",
        "public int agreeing(int)"));

    public static void main(String[] args) throws IllegalAccessException {
        Set<String> face = new TreeSet<>();
        for (Field f : CoercionDesk.class.getDeclaredFields()) {
            if (shown(f.getModifiers())) {
                face.add(Modifier.toString(f.getModifiers()) + " " + f.getType() + " " + f.getName()
                    + " = " + f.get(null));
            }
        }
        for (Constructor<?> c : CoercionDesk.class.getDeclaredConstructors()) {
            if (shown(c.getModifiers())) {
                face.add(Modifier.toString(c.getModifiers()) + " CoercionDesk" + list(c.getParameterTypes()));
            }
        }
        for (Method m : CoercionDesk.class.getDeclaredMethods()) {
            if (shown(m.getModifiers())) {
                face.add(Modifier.toString(m.getModifiers()) + " " + m.getReturnType() + " " + m.getName()
                    + list(m.getParameterTypes()));
            }
        }
        int classModifiers = CoercionDesk.class.getModifiers();
        boolean right = face.equals(FACE) && classModifiers == (Modifier.PUBLIC | Modifier.FINAL);
        if (!right) {
            System.out.println("the face is " + Modifier.toString(classModifiers) + " " + face + ", due is "
                + FACE);
            System.exit(1);
        }
        System.out.println("the face is as due");
    }

    private static boolean shown(int modifiers) {
        return !Modifier.isPrivate(modifiers);
    }

    private static String list(Class<?>[] types) {
        return Arrays.toString(types).replace('[', '(').replace(']', ')');
    }
}
