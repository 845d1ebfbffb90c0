import java.io.IOException;
import java.lang.reflect.Field;
import java.lang.reflect.Method;
import java.lang.reflect.Modifier;
import java.nio.file.Files;
import java.nio.file.Path;
import java.util.HashSet;
import java.util.List;
import java.util.Set;

/** Those rules of LANGUAGE.md that can be seen from the source and the compiled classes. */
public final class LanguageTest {
    private static final Path SOURCE = Path.of("src/main/java/ScopeGraph.java");
    private static final String[] OUT = {"import ", "package ", "->", "::", "try ", "catch", "finally", "synchronized",
        "assert ", "Exact(", "System.", "Thread", "equals(", "hashCode", "toString", "while (true)", "for (;;)", "var "};

    public static void main(String[] args) throws IOException {
        words(Files.readAllLines(SOURCE));
        shortMethods(Files.readAllLines(SOURCE));
        Set<String> face = new HashSet<>();
        for (Method method : ScopeGraph.class.getDeclaredMethods()) {
            if (Modifier.isPublic(method.getModifiers())) {
                face.add(method.getName());
            }
        }
        Class<?>[] inside = ScopeGraph.class.getDeclaredClasses();
        Check.due("at most twelve classes", inside.length < 12 ? 1 : 0, 1);
        ofClass(ScopeGraph.class, face);
        for (Class<?> one : inside) {
            Check.due(one + " is private and static", one.getModifiers() & (Modifier.PRIVATE | Modifier.STATIC),
                    Modifier.PRIVATE | Modifier.STATIC);
            ofClass(one, face);
        }
        Check.finish(100);
    }

    private static void words(List<String> lines) {
        for (int i = 0; i < lines.size(); i++) {
            String code = lines.get(i).replaceAll("\"[^\"]*\"", "\"\"").trim();
            if (!code.startsWith("*") && !code.startsWith("/*")) {
                for (String out : OUT) {
                    Check.due("line " + (i + 1) + " has '" + out + "'", code.contains(out) ? 1 : 0, 0);
                }
            }
            Check.due("line " + (i + 1) + " is not too wide", lines.get(i).length() > 110 ? 1 : 0, 0);
        }
    }

    /** A method begins at a line that ends with '{' behind ')' and ends at a '}' as far to the right. */
    private static void shortMethods(List<String> lines) {
        for (int i = 0; i < lines.size(); i++) {
            String line = lines.get(i);
            String margin = line.substring(0, line.length() - line.stripLeading().length());
            if (margin.length() <= 8 && line.matches(".*\\).*\\{")) {
                int end = lines.subList(i, lines.size()).indexOf(margin + "}");
                Check.due("the method at line " + (i + 1) + " has at most sixty lines", end >= 0 && end <= 60 ? 1 : 0, 1);
            }
        }
    }

    private static void ofClass(Class<?> one, Set<String> face) {
        int fields = 0;
        for (Field field : one.getDeclaredFields()) {
            boolean fixed = Modifier.isStatic(field.getModifiers());
            fields += fixed ? 0 : 1;
            Check.due(field + " is final if static", fixed && !Modifier.isFinal(field.getModifiers()) ? 1 : 0, 0);
        }
        Check.due(one + " has at most twenty fields", fields <= 20 ? 1 : 0, 1);
        for (Method method : one.getDeclaredMethods()) {
            Check.due(method + " has at most seven parameters", method.getParameterCount() <= 7 ? 1 : 0, 1);
            boolean ofFace = one == ScopeGraph.class && Modifier.isPublic(method.getModifiers());
            Check.due(method + " bears a name of the face", !ofFace && face.contains(method.getName()) ? 1 : 0, 0);
        }
    }
}
