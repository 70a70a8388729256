import java.lang.reflect.Constructor;
import java.lang.reflect.Field;
import java.lang.reflect.Method;
import java.lang.reflect.Modifier;
import java.util.Arrays;
import java.util.Set;
import java.util.TreeSet;

/** The class shows the document's face and nothing else (LANGUAGE.md, rules 1, 2, 5 and 10). */
public final class FaceTest {
    private static final String[] FACE = {
        "new(int, int)",
        "int issueRead(int, int, int, int)",
        "int issueWrite(int, int, int, int)",
        "boolean writeData(int, int)",
        "boolean setLatency(int, int, int)",
        "boolean setReady(int, boolean, boolean)",
        "boolean step(int)",
        "int cycle()",
        "int status(int)",
        "int beats(int)",
        "int readData(int, int)",
        "int doneOrder(int)",
        "int doneCycle(int)",
        "int outstanding(int)",
        "int subLoad(int)",
        "int pendingData(int)",
        "int memory(int)",
        "int ST_NONE = -1",
        "int ST_QUEUED = 0",
        "int ST_ACTIVE = 1",
        "int ST_OKAY = 2",
        "int ST_DECERR = 3",
        "int ERR_ARG = -1",
        "int ERR_FULL = -2",
        "int ERR_SLOT = -3",
        "int MAX_STEPS = 64",
    };

    private FaceTest() {
    }

    public static void main(String[] args) throws IllegalAccessException {
        Class<IdInterconnect> type = IdInterconnect.class;
        Due.part("the face");
        Due.yes("public", Modifier.isPublic(type.getModifiers()));
        Due.yes("final", Modifier.isFinal(type.getModifiers()));
        Due.is("nested classes", type.getDeclaredClasses().length, 0);
        compare(new TreeSet<>(Arrays.asList(FACE)), shown(type));
        methodNames(type);
        fields(type);
        Due.end();
    }

    private static Set<String> shown(Class<IdInterconnect> type) throws IllegalAccessException {
        Set<String> found = new TreeSet<>();
        for (Constructor<?> c : type.getDeclaredConstructors()) {
            found.add(mark(c.getModifiers()) + "new" + types(c.getParameterTypes()));
        }
        for (Method m : type.getDeclaredMethods()) {
            if (!Modifier.isPrivate(m.getModifiers())) {
                String told = m.getReturnType() + " " + m.getName() + types(m.getParameterTypes());
                found.add(mark(m.getModifiers()) + told);
            }
        }
        for (Field f : type.getDeclaredFields()) {
            if (!Modifier.isPrivate(f.getModifiers())) {
                found.add(mark(f.getModifiers()) + f.getType() + " " + f.getName() + " = " + f.getInt(null));
            }
        }
        return found;
    }

    private static String mark(int modifiers) {
        return Modifier.isPublic(modifiers) ? "" : "not public: ";
    }

    private static String types(Class<?>[] types) {
        StringBuilder told = new StringBuilder("(");
        for (Class<?> type : types) {
            told.append(told.length() > 1 ? ", " : "").append(type);
        }
        return told.append(")").toString();
    }

    private static void compare(Set<String> due, Set<String> shown) {
        for (String member : due) {
            Due.yes("has " + member, shown.contains(member));
        }
        for (String member : shown) {
            Due.yes("the document names " + member, due.contains(member));
        }
    }

    private static void methodNames(Class<IdInterconnect> type) {
        Set<String> names = new TreeSet<>();
        for (Method m : type.getDeclaredMethods()) {
            Due.yes(m.getName() + " is the only method of its name", names.add(m.getName()));
            Due.yes(m.getName() + " has at most seven parameters", m.getParameterCount() <= 7);
        }
    }

    private static void fields(Class<IdInterconnect> type) {
        int count = 0;
        for (Field f : type.getDeclaredFields()) {
            Class<?> kind = f.getType().isArray() ? f.getType().getComponentType() : f.getType();
            boolean whole = kind.isPrimitive() && kind != float.class && kind != double.class;
            Due.yes(f.getName() + " is of whole numbers", whole);
            if (Modifier.isStatic(f.getModifiers())) {
                boolean constant = Modifier.isFinal(f.getModifiers()) && (f.getType() == int.class || f.getType() == long.class);
                Due.yes(f.getName() + " is a constant", constant);
            } else {
                count++;
            }
        }
        Due.yes("at most forty fields", count <= 40);
    }
}
