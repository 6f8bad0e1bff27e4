import java.lang.reflect.Constructor;
import java.lang.reflect.Field;
import java.lang.reflect.Method;
import java.lang.reflect.Modifier;
import java.util.Set;
import java.util.TreeSet;

// The class shows the document's constants, constructor and methods, and nothing else that isn't private.
public final class FaceTest {
    private static final Set<String> METHODS = Set.of(
        "int map(int,int)", "int unmap(int,int)", "int write(int,int,int)", "int copy(int,int,int)",
        "int send(int,int,int,int)", "int receive(int,int,int)", "int drain(int)", "int snapshot(int)",
        "int rollBack(int)", "int exit(int)", "int read(int,int)", "boolean mapped(int,int)",
        "int lastWord(int)", "int waiting(int)");
    private static final Set<String> CONSTANTS = Set.of(
        "BAD_NUMBER = -1", "BAD_PAGE = -2", "MAPPED = -3", "NOT_MAPPED = -4", "PORT_FULL = -5",
        "PORT_EMPTY = -6", "NO_SNAPSHOT = -7");

    private static int wrong = 0;

    public static void main(String[] args) throws IllegalAccessException {
        Class<?> face = OolMessagePorts.class;
        due("class", Modifier.toString(face.getModifiers()), "public final");
        due("super class", face.getSuperclass(), Object.class);
        due("interfaces", face.getInterfaces().length, 0);
        due("nested classes", face.getDeclaredClasses().length, 0);
        due("constructors", constructors(face), Set.of("public 0"));
        due("methods", new TreeSet<>(visibleMethods(face)), new TreeSet<>(METHODS));
        due("constants", new TreeSet<>(visibleFields(face)), new TreeSet<>(CONSTANTS));
        due("private methods with a public name", sharedNames(face), Set.of());
        if (wrong != 0) {
            System.exit(1);
        }
        System.out.println("the face is the document's");
    }

    private static void due(String what, Object got, Object want) {
        if (!got.equals(want)) {
            wrong++;
            System.out.println(what + ": " + got + ", due is " + want);
        }
    }

    private static Set<String> constructors(Class<?> face) {
        Set<String> found = new TreeSet<>();
        for (Constructor<?> one : face.getDeclaredConstructors()) {
            found.add(Modifier.toString(one.getModifiers()) + " " + one.getParameterCount());
        }
        return found;
    }

    private static Set<String> visibleMethods(Class<?> face) {
        Set<String> found = new TreeSet<>();
        for (Method one : face.getDeclaredMethods()) {
            if (Modifier.isPrivate(one.getModifiers())) {
                continue;
            }
            String kind = one.getModifiers() == Modifier.PUBLIC ? "" : Modifier.toString(one.getModifiers()) + " ";
            StringBuilder types = new StringBuilder();
            for (Class<?> type : one.getParameterTypes()) {
                types.append(types.length() == 0 ? "" : ",").append(type.getName());
            }
            found.add(kind + one.getReturnType().getName() + " " + one.getName() + "(" + types + ")");
        }
        return found;
    }

    private static Set<String> visibleFields(Class<?> face) throws IllegalAccessException {
        Set<String> found = new TreeSet<>();
        for (Field one : face.getDeclaredFields()) {
            if (Modifier.isPrivate(one.getModifiers())) {
                continue;
            }
            boolean constant = Modifier.toString(one.getModifiers()).equals("public static final")
                && one.getType() == int.class;
            found.add(constant ? one.getName() + " = " + one.getInt(null) : "not a constant: " + one);
        }
        return found;
    }

    private static Set<String> sharedNames(Class<?> face) {
        Set<String> open = new TreeSet<>();
        Set<String> shared = new TreeSet<>();
        for (Method one : face.getDeclaredMethods()) {
            if (Modifier.isPublic(one.getModifiers())) {
                open.add(one.getName());
            }
        }
        for (Method one : face.getDeclaredMethods()) {
            if (Modifier.isPrivate(one.getModifiers()) && open.contains(one.getName())) {
                shared.add(one.getName());
            }
        }
        return shared;
    }
}
