import java.lang.reflect.Constructor;
import java.lang.reflect.Field;
import java.lang.reflect.Method;
import java.lang.reflect.Modifier;
import java.util.Arrays;
import java.util.Set;
import java.util.TreeSet;

/** The public face: just the constant, the constructor and the methods of the document, and nothing beside. */
public final class FaceTest {
    private static final Due DUE = new Due("FaceTest");

    private static final String STATE = "java.lang.IllegalStateException";
    private static final String ARGUMENT = "java.lang.IllegalArgumentException";
    private static final String NO_ROOM = "java.lang.UnsupportedOperationException";
    private static final String NO_SUCH = "java.util.NoSuchElementException";

    private static final String[] METHODS = {
        "void format() " + STATE,
        "int recover() " + STATE,
        "int put(int,int) " + ARGUMENT + " " + STATE + " " + NO_ROOM,
        "boolean remove(int) " + ARGUMENT + " " + STATE + " " + NO_ROOM,
        "int get(int) " + ARGUMENT + " " + STATE + " " + NO_SUCH,
        "boolean has(int) " + ARGUMENT + " " + STATE,
        "int flush() " + STATE + " " + NO_ROOM,
        "int compact() " + STATE + " " + NO_ROOM,
        "int merge(int) " + ARGUMENT + " " + STATE + " " + NO_ROOM,
        "void limit(int) " + ARGUMENT + " " + STATE,
        "int left()",
        "boolean seek(int) " + ARGUMENT + " " + STATE,
        "boolean next() " + STATE,
        "int key()",
        "int value()",
        "int size() " + STATE,
        "int memory()",
        "int runs(int) " + ARGUMENT + " " + STATE,
        "int entries(int,int) " + STATE + " " + NO_SUCH,
        "int room() " + STATE,
    };

    public static void main(String[] args) {
        DUE.isText("the class", "public final", Modifier.toString(RunStore.class.getModifiers()));
        lookAtMethods();
        lookAtFields();
        lookAtConstructors();
        lookAtClassesInside();
        DUE.is("NONE", -1, RunStore.NONE);
        DUE.end();
    }

    private static void lookAtMethods() {
        Set<String> open = new TreeSet<>();
        Set<String> openNames = new TreeSet<>();
        for (Method method : RunStore.class.getDeclaredMethods()) {
            if (!Modifier.isPrivate(method.getModifiers())) {
                open.add(told(method));
                openNames.add(method.getName());
            }
        }
        DUE.isText("the methods", new TreeSet<>(Arrays.asList(METHODS)).toString(), open.toString());
        for (Method method : RunStore.class.getDeclaredMethods()) {
            if (Modifier.isPrivate(method.getModifiers())) {
                DUE.is("a public name for the private " + method.getName(), false,
                        openNames.contains(method.getName()));
            }
        }
    }

    private static String told(Method method) {
        StringBuilder text = new StringBuilder();
        if (method.getModifiers() != Modifier.PUBLIC) {
            text.append(Modifier.toString(method.getModifiers())).append(' ');
        }
        text.append(method.getReturnType().getName()).append(' ').append(method.getName()).append('(');
        for (int i = 0; i < method.getParameterCount(); i++) {
            text.append(i == 0 ? "" : ",").append(method.getParameterTypes()[i].getName());
        }
        text.append(')');
        for (Class<?> thrown : method.getExceptionTypes()) {
            text.append(' ').append(thrown.getName());
        }
        return text.toString();
    }

    private static void lookAtFields() {
        for (Field field : RunStore.class.getDeclaredFields()) {
            int modifiers = field.getModifiers();
            if (field.getName().equals("NONE")) {
                DUE.isText("NONE", "public static final int", Modifier.toString(modifiers) + " " + field.getType());
                continue;
            }
            DUE.is("private field " + field.getName(), true, Modifier.isPrivate(modifiers));
            DUE.is("static field that is not final: " + field.getName(), false,
                    Modifier.isStatic(modifiers) && !Modifier.isFinal(modifiers));
        }
    }

    private static void lookAtConstructors() {
        Constructor<?>[] constructors = RunStore.class.getDeclaredConstructors();
        DUE.is("the number of constructors", 1, constructors.length);
        DUE.isText("the constructor", "public RunStore()", constructors[0].toString());
    }

    private static void lookAtClassesInside() {
        for (Class<?> inside : RunStore.class.getDeclaredClasses()) {
            int modifiers = inside.getModifiers();
            DUE.is("static class " + inside.getSimpleName(), true, Modifier.isStatic(modifiers));
            DUE.is("open class " + inside.getSimpleName(), false,
                    Modifier.isPublic(modifiers) || Modifier.isProtected(modifiers));
        }
    }
}
