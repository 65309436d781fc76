import java.lang.reflect.Constructor;
import java.lang.reflect.Field;
import java.lang.reflect.Method;
import java.lang.reflect.Modifier;
import java.util.Arrays;
import java.util.Set;
import java.util.TreeSet;

/** The public face, and what LANGUAGE.md lets be seen beside it. */
public final class FaceTest {
    private static final String[] FACE = {
        "int function(int, int) IllegalArgumentException",
        "int add(int, int, int, int) IllegalArgumentException IllegalStateException",
        "int handle(int, int, int, int) IllegalArgumentException IllegalStateException",
        "int start(int, int, int) IllegalArgumentException",
        "int run(int) IllegalArgumentException IllegalStateException",
        "long said(int) IndexOutOfBoundsException",
        "long value(int) IndexOutOfBoundsException IllegalStateException UnsupportedOperationException",
        "int told(int) IllegalArgumentException",
        "int snapshot() IllegalStateException",
        "int load() IllegalArgumentException UnsupportedOperationException",
        "int where()",
        "int image(int) IndexOutOfBoundsException",
        "int patch(int, int, boolean) IllegalArgumentException IndexOutOfBoundsException",
        "int cut(int) IllegalArgumentException"
    };

    private FaceTest() {
    }

    public static void main(String[] args) {
        Set<String> names = new TreeSet<>();
        Set<String> face = new TreeSet<>();
        for (Method m : SnapForge.class.getDeclaredMethods()) {
            if (!Modifier.isPrivate(m.getModifiers())) {
                face.add(told(m));
                names.add(m.getName());
                yes(m + " is public", Modifier.isPublic(m.getModifiers()));
            }
        }
        for (String due : FACE) {
            yes("there is " + due, face.remove(due));
        }
        yes("there is no other: " + face, face.isEmpty());
        for (Method m : SnapForge.class.getDeclaredMethods()) {
            yes("no name twice: " + m, !Modifier.isPrivate(m.getModifiers()) || !names.contains(m.getName()));
        }
        yes("public and final", Modifier.isPublic(SnapForge.class.getModifiers())
            && Modifier.isFinal(SnapForge.class.getModifiers()));
        Constructor<?>[] constructors = SnapForge.class.getDeclaredConstructors();
        yes("one public constructor without parameters", constructors.length == 1
            && Modifier.isPublic(constructors[0].getModifiers())
            && constructors[0].getParameterCount() == 0);
        fields(SnapForge.class, true);
        for (Class<?> inside : SnapForge.class.getDeclaredClasses()) {
            int m = inside.getModifiers();
            yes(inside + " is static", Modifier.isStatic(m));
            yes(inside + " is not public", !Modifier.isPublic(m) && !Modifier.isProtected(m));
            fields(inside, false);
        }
        yes("at most twelve classes", SnapForge.class.getDeclaredClasses().length < 12);
        Checks.finish("FaceTest");
    }

    private static void fields(Class<?> of, boolean isPrivate) {
        int own = 0;
        for (Field f : of.getDeclaredFields()) {
            int m = f.getModifiers();
            yes(f + " is private", !isPrivate || Modifier.isPrivate(m));
            yes(f + " is final", !Modifier.isStatic(m) || Modifier.isFinal(m));
            own += Modifier.isStatic(m) ? 0 : 1;
        }
        yes(of + " has few fields", own <= 20);
    }

    private static String told(Method m) {
        StringBuilder s = new StringBuilder();
        s.append(m.getReturnType()).append(' ').append(m.getName()).append('(');
        String parameters = Arrays.toString(m.getParameterTypes());
        s.append(parameters, 1, parameters.length() - 1).append(')');
        for (Class<?> e : m.getExceptionTypes()) {
            s.append(' ').append(e.getSimpleName());
        }
        return s.toString();
    }

    private static void yes(String what, boolean isSo) {
        Checks.same(what, isSo ? 1 : 0, 1);
    }
}
