import java.lang.reflect.Constructor;
import java.lang.reflect.Field;
import java.lang.reflect.Method;
import java.lang.reflect.Modifier;
import java.util.Arrays;
import java.util.List;
import java.util.TreeSet;

/** The class shows the document's face and nothing else, and keeps no static state (rules 1 and 5). */
public final class FaceTest {
    private static final String[] METHODS = {
        "boolean cut()", "boolean drop()", "boolean spoil(int,int)", "boolean write(long)",
        "int build(int) IllegalStateException",
        "int find() IllegalArgumentException IllegalStateException",
        "int first()", "int hit(int,int)", "int image(int)", "int letter(int,int)",
        "int load() UnsupportedOperationException IllegalStateException",
        "int map(int) IllegalArgumentException IllegalStateException",
        "int occ(int,int)",
        "int piece() IllegalArgumentException IllegalStateException",
        "int record(int)", "int steps(int)", "int store() IllegalStateException",
        "int suffix(int) IllegalStateException IndexOutOfBoundsException",
        "int turned(int)",
    };

    private FaceTest() {
    }

    public static void main(String[] args) {
        Checks checks = new Checks();
        Class<?> face = ReadMapper.class;
        checks.due("public and final", Modifier.toString(face.getModifiers()), "public final");
        TreeSet<String> shown = new TreeSet<>();
        TreeSet<String> publicNames = new TreeSet<>();
        TreeSet<String> privateNames = new TreeSet<>();
        for (Method m : shownMethods()) {
            shown.add(signature(m));
            publicNames.add(m.getName());
        }
        for (Method m : face.getDeclaredMethods()) {
            if (Modifier.isPrivate(m.getModifiers())) {
                privateNames.add(m.getName());
            }
        }
        checks.due("methods", shown, new TreeSet<>(Arrays.asList(METHODS)));
        privateNames.retainAll(publicNames);
        checks.due("private methods with a public name", privateNames, "[]");
        checks.due("constructors", constructors(face), "[public ReadMapper()]");
        checks.due("fields", fields(face), "[public static final int ReadMapper.NONE]");
        checks.due("NONE", ReadMapper.NONE, -1);
        checkNested(checks, face);
        checkStatics(checks, face);
        for (Class<?> nested : face.getDeclaredClasses()) {
            checkStatics(checks, nested);
        }
        checks.end("FaceTest");
    }

    static List<Method> shownMethods() {
        return Arrays.stream(ReadMapper.class.getDeclaredMethods())
                .filter(m -> !Modifier.isPrivate(m.getModifiers()))
                .toList();
    }

    private static String signature(Method m) {
        StringBuilder told = new StringBuilder(m.getReturnType() + " " + m.getName() + "(");
        Class<?>[] parameters = m.getParameterTypes();
        for (int i = 0; i < parameters.length; i++) {
            told.append(i == 0 ? "" : ",").append(parameters[i]);
        }
        told.append(")");
        for (Class<?> thrown : m.getExceptionTypes()) {
            told.append(" ").append(thrown.getSimpleName());
        }
        return told.toString();
    }

    private static TreeSet<String> constructors(Class<?> face) {
        TreeSet<String> shown = new TreeSet<>();
        for (Constructor<?> c : face.getDeclaredConstructors()) {
            shown.add(c.toString());
        }
        return shown;
    }

    private static TreeSet<String> fields(Class<?> face) {
        TreeSet<String> shown = new TreeSet<>();
        for (Field f : face.getDeclaredFields()) {
            if (!Modifier.isPrivate(f.getModifiers())) {
                shown.add(f.toString());
            }
        }
        return shown;
    }

    private static void checkNested(Checks checks, Class<?> face) {
        for (Class<?> nested : face.getDeclaredClasses()) {
            int modifiers = nested.getModifiers();
            checks.due(nested + " is static", Modifier.isStatic(modifiers), true);
            checks.due(nested + " is hidden",
                    Modifier.isPublic(modifiers) || Modifier.isProtected(modifiers), false);
        }
    }

    /** Rule 5: what is static never changes, so that no object knows of another. */
    private static void checkStatics(Checks checks, Class<?> owner) {
        for (Field f : owner.getDeclaredFields()) {
            if (Modifier.isStatic(f.getModifiers())) {
                checks.due(f + " is final", Modifier.isFinal(f.getModifiers()), true);
            }
        }
    }
}
