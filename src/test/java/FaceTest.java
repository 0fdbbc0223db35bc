import java.lang.reflect.Constructor;
import java.lang.reflect.Field;
import java.lang.reflect.Method;
import java.lang.reflect.Modifier;
import java.util.Arrays;
import java.util.Set;
import java.util.TreeSet;

/** The class shows just the members of the document's public face, with the exceptions that it names. */
public final class FaceTest {
    private static final String[] CONSTANTS = {"NONE", "CHILD", "SELF", "DESCENDANT", "DESCENDANT_OR_SELF",
        "FOLLOWING_SIBLING", "FOLLOWING", "PARENT", "ANCESTOR", "PRECEDING_SIBLING", "PRECEDING"};
    /** In the names of exceptions: I index, A argument, S state, U unsupported. */
    private static final String[] METHODS = {"int addNode(3) IAS", "int removeNode(1) IU", "int moveNode(2) IU",
        "int setNode(3) IA", "int nodes(0) ", "int node(2) IA", "int axis(3) IA", "int type(1) AS",
        "int clearText(0) ", "int read(1) I", "int written(2) IAS", "int size(2) IAS", "int unite(3) IS",
        "int drop(1) I", "int count(2) IS", "int selected(3) IAS", "int sum(2) IS", "int given(4) ISA",
        "int differences(2) IS", "int rewrite(1) IS", "int uses(2) IAS", "int undo(0) S", "long digest(0) "};

    private static int wrong = 0;

    public static void main(String[] args) throws ReflectiveOperationException {
        due("public final class", Modifier.toString(TreeQueries.class.getModifiers()), "public final");
        constants();
        constructors();
        methods();
        classesInside();
        System.out.println(wrong == 0 ? "the face is as due" : wrong + " differences in the face");
        if (wrong != 0) {
            System.exit(1);
        }
    }

    private static void due(String what, Object got, Object due) {
        if (!due.equals(got)) {
            wrong++;
            System.out.println(what + " is " + got + ", due is " + due);
        }
    }

    private static void constants() throws ReflectiveOperationException {
        Set<String> shown = new TreeSet<>();
        for (Field field : TreeQueries.class.getDeclaredFields()) {
            if (!Modifier.isPrivate(field.getModifiers())) {
                shown.add(field.getName());
                due(field.getName(), Modifier.toString(field.getModifiers()), "public static final");
                due("type of " + field.getName(), field.getType(), int.class);
            } else if (Modifier.isStatic(field.getModifiers())) {
                due(field.getName() + " is final", Modifier.isFinal(field.getModifiers()), true);
            }
        }
        due("constants", shown, new TreeSet<>(Arrays.asList(CONSTANTS)));
        for (int i = 0; i < CONSTANTS.length; i++) {
            due(CONSTANTS[i], TreeQueries.class.getField(CONSTANTS[i]).getInt(null), i - 1);
        }
    }

    private static void constructors() {
        Constructor<?>[] all = TreeQueries.class.getDeclaredConstructors();
        due("constructors", all.length, 1);
        due("constructor", all[0].toString(), "public TreeQueries()");
    }

    private static void methods() {
        Set<String> shown = new TreeSet<>();
        Set<String> names = new TreeSet<>();
        for (String method : METHODS) {
            names.add(method.substring(method.indexOf(' ') + 1, method.indexOf('(')));
        }
        for (Method method : TreeQueries.class.getDeclaredMethods()) {
            if (Modifier.isPrivate(method.getModifiers())) {
                due("private " + method.getName() + " has a name of the face", names.contains(method.getName()), false);
                continue;
            }
            due(method.getName(), Modifier.toString(method.getModifiers()), "public");
            StringBuilder thrown = new StringBuilder();
            for (Class<?> exception : method.getExceptionTypes()) {
                String name = exception.getSimpleName();
                thrown.append(name.startsWith("IndexOut") ? 'I' : name.startsWith("IllegalArg") ? 'A'
                        : name.startsWith("IllegalState") ? 'S' : name.startsWith("Unsupported") ? 'U' : '?');
            }
            shown.add(method.getReturnType() + " " + method.getName() + "(" + method.getParameterCount() + ") "
                    + thrown);
            for (Class<?> parameter : method.getParameterTypes()) {
                due("parameter of " + method.getName(), parameter, int.class);
            }
        }
        due("methods", shown, new TreeSet<>(Arrays.asList(METHODS)));
    }

    private static void classesInside() {
        Class<?>[] inside = TreeQueries.class.getDeclaredClasses();
        due("at most twelve classes", inside.length + 1 <= 12, true);
        for (Class<?> nested : inside) {
            int modifiers = nested.getModifiers();
            due(nested.getName() + " is static and hidden",
                    Modifier.isStatic(modifiers) && !Modifier.isPublic(modifiers) && !Modifier.isProtected(modifiers),
                    true);
            int fields = 0;
            for (Field field : nested.getDeclaredFields()) {
                if (Modifier.isStatic(field.getModifiers())) {
                    due(nested.getName() + "." + field.getName() + " is final",
                            Modifier.isFinal(field.getModifiers()), true);
                } else {
                    fields++;
                }
            }
            due(nested.getName() + " has at most twenty fields", fields <= 20, true);
        }
    }
}
