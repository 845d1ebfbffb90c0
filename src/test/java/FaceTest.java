import java.lang.reflect.Constructor;
import java.lang.reflect.Field;
import java.lang.reflect.Method;
import java.lang.reflect.Modifier;
import java.util.Arrays;
import java.util.TreeSet;

/** The public face is the document's: its constants, its constructor, its methods, no more. */
public final class FaceTest {
    private static final String[] DUE = {
        "int count(int) throws IndexOutOfBoundsException",
        "int declaration(int,int) throws IndexOutOfBoundsException",
        "void end(int) throws IllegalArgumentException",
        "int fault()",
        "int feed(int,int,int,int,int) throws UnsupportedOperationException",
        "boolean friends(int,int) throws IndexOutOfBoundsException",
        "int letter(int) throws IndexOutOfBoundsException",
        "int meant(int,int) throws IndexOutOfBoundsException",
        "int read()",
        "int reference(int,int) throws IndexOutOfBoundsException",
        "int rename(int) throws IndexOutOfBoundsException",
        "int scope(int,int) throws IndexOutOfBoundsException",
    };

    public static void main(String[] args) {
        Check.due("NONE", ScopeGraph.NONE, -1);
        Check.due("NO_NAME", ScopeGraph.NO_NAME, -2);
        Check.due("REFUSED", ScopeGraph.REFUSED, -3);
        Check.due("TOO_LONG", ScopeGraph.TOO_LONG, -4);
        int flags = ScopeGraph.class.getModifiers();
        Check.due("the class is public and final", flags & (Modifier.PUBLIC | Modifier.FINAL),
                Modifier.PUBLIC | Modifier.FINAL);
        methods();
        fields();
        constructors();
        Check.finish(8);
    }

    private static void methods() {
        TreeSet<String> due = new TreeSet<>(Arrays.asList(DUE));
        TreeSet<String> got = new TreeSet<>();
        for (Method method : ScopeGraph.class.getDeclaredMethods()) {
            if (!Modifier.isPrivate(method.getModifiers())) {
                got.add(shown(method));
            }
        }
        if (!got.equals(due)) {
            System.out.println("methods: " + got + "\ndue: " + due);
        }
        Check.due("the methods are those of the document", got.equals(due) ? 1 : 0, 1);
    }

    private static String shown(Method method) {
        StringBuilder text = new StringBuilder();
        text.append(method.getReturnType().getName()).append(' ').append(method.getName()).append('(');
        for (int i = 0; i < method.getParameterCount(); i++) {
            text.append(i == 0 ? "" : ",").append(method.getParameterTypes()[i].getName());
        }
        text.append(')');
        for (Class<?> thrown : method.getExceptionTypes()) {
            text.append(" throws ").append(thrown.getSimpleName());
        }
        return text.toString();
    }

    private static void fields() {
        int open = 0;
        for (Field field : ScopeGraph.class.getDeclaredFields()) {
            open += Modifier.isPrivate(field.getModifiers()) ? 0 : 1;
            if (Modifier.isStatic(field.getModifiers())) {
                Check.due(field.getName() + " is final", field.getModifiers() & Modifier.FINAL, Modifier.FINAL);
            }
        }
        Check.due("fields that are not private", open, 4);
    }

    private static void constructors() {
        Constructor<?>[] all = ScopeGraph.class.getDeclaredConstructors();
        Check.due("constructors", all.length, 1);
        Check.due("its parameters", all[0].getParameterCount(), 0);
        Check.due("it is public", all[0].getModifiers() & Modifier.PUBLIC, Modifier.PUBLIC);
    }
}
