import java.util.ArrayList;
import java.util.HashSet;
import java.util.List;
import java.util.Set;
import java.util.TreeSet;

/**
 * A text as the document tells it, word by word: a parser by recursion, and the calculus with its
 * sets I and S carried along as they are written. It may take very long, so it counts its steps.
 */
final class Oracle {
    static final class Fault extends RuntimeException {
        private static final long serialVersionUID = 1L;
        final int code;
        final int place;

        Fault(int code, int place) {
            this.code = code;
            this.place = place;
        }
    }

    static final class TooSlow extends RuntimeException {
        private static final long serialVersionUID = 1L;
    }

    static final class Scope {
        int kind;
        int parent = -1;
        final List<Integer> declarations = new ArrayList<>();
        final List<Integer> references = new ArrayList<>();
        final List<Integer> imports = new ArrayList<>();
    }

    static final class Name {
        int scope;
        int place;
        String name;
        int has = -1;
        int importer = -1;
        Set<Integer> meant = new TreeSet<>();
        int up = -1;
        int near = -1;
    }

    private static final Set<String> WORDS =
            Set.of("module", "import", "def", "fun", "let", "rec", "par", "in");

    final String text;
    final List<Scope> scopes = new ArrayList<>();
    final List<Name> declarations = new ArrayList<>();
    final List<Name> references = new ArrayList<>();
    private int statements = 0;
    private int open = 0;
    private int start = 0;
    private String token = "";
    private long steps;

    Oracle(String text, long mostSteps) {
        this.text = text;
        this.steps = mostSteps;
        makeScope(0, -1);
        next();
        decs(0);
        if (!token.isEmpty()) {
            throw new Fault(2, start);
        }
        for (int r = 0; r < references.size(); r++) {
            resolve(r);
        }
    }

    // ---- tokens

    static boolean isName(String text) {
        return text.matches("[A-Za-z_][A-Za-z0-9_]{0,11}") && !WORDS.contains(text);
    }

    private boolean isNumber() {
        return !token.isEmpty() && Character.isDigit(token.charAt(0));
    }

    private void next() {
        int at = start + token.length();
        while (at < text.length() && " \t\n\r".indexOf(text.charAt(at)) >= 0) {
            at++;
        }
        start = at;
        if (at == text.length()) {
            token = "";
            return;
        }
        String first = text.substring(at, at + 1);
        int to = at + 1;
        if (first.matches("[A-Za-z_]")) {
            while (to < text.length() && text.substring(to, to + 1).matches("[A-Za-z0-9_]")) {
                to++;
            }
            if (to - at > 12) {
                throw new Fault(1, at);
            }
        } else if (first.matches("[0-9]")) {
            while (to < text.length() && text.substring(to, to + 1).matches("[0-9]")) {
                to++;
            }
            if (to - at > 9) {
                throw new Fault(1, at);
            }
        } else if ("{}()=+.,;".indexOf(first) < 0) {
            throw new Fault(1, at);
        }
        token = text.substring(at, to);
    }

    private void must(String due) {
        if (!token.equals(due)) {
            throw new Fault(2, start);
        }
        if (due.equals("{") || due.equals("(")) {
            if (open == 20) {
                throw new Fault(3, start);
            }
            open++;
        }
        if (due.equals("}") || due.equals(")")) {
            open--;
        }
        next();
    }

    private void mustBeName() {
        if (!isName(token)) {
            throw new Fault(2, start);
        }
    }

    // ---- what the grammar makes

    private int makeScope(int kind, int parent) {
        if (scopes.size() == 64) {
            throw new Fault(5, start);
        }
        Scope scope = new Scope();
        scope.kind = kind;
        scope.parent = parent;
        scopes.add(scope);
        return scopes.size() - 1;
    }

    private void roomForDeclaration() {
        mustBeName();
        if (declarations.size() == 60) {
            throw new Fault(4, start);
        }
    }

    private void roomForReference() {
        mustBeName();
        if (references.size() == 100) {
            throw new Fault(4, start);
        }
    }

    private Name declare(int scope) {
        Name name = new Name();
        name.scope = scope;
        name.place = start;
        name.name = token;
        scopes.get(scope).declarations.add(declarations.size());
        declarations.add(name);
        next();
        return name;
    }

    private int refer(int scope) {
        Name name = new Name();
        name.scope = scope;
        name.place = start;
        name.name = token;
        scopes.get(scope).references.add(references.size());
        references.add(name);
        next();
        return references.size() - 1;
    }

    private void imports(int scope, int reference) {
        scopes.get(scope).imports.add(reference);
        references.get(reference).importer = scope;
    }

    private void decs(int here) {
        while (true) {
            if (token.equals("module")) {
                next();
                roomForDeclaration();
                int made = makeScope(1, here);
                declare(here).has = made;
                must("{");
                decs(made);
                must("}");
            } else if (token.equals("import")) {
                next();
                mustBeName();
                if (statements == 6) {
                    throw new Fault(4, start);
                }
                statements++;
                imports(here, longName(here));
                must(";");
            } else if (token.equals("def")) {
                next();
                roomForDeclaration();
                declare(here);
                must("=");
                exp(here);
                must(";");
            } else {
                return;
            }
        }
    }

    private int longName(int here) {
        roomForReference();
        int latest = refer(here);
        while (token.equals(".")) {
            next();
            roomForReference();
            int made = makeScope(6, -1);
            imports(made, latest);
            latest = refer(made);
        }
        return latest;
    }

    private void exp(int here) {
        app(here);
        while (token.equals("+")) {
            next();
            app(here);
        }
    }

    private void app(int here) {
        if (!atomBegins()) {
            throw new Fault(2, start);
        }
        while (atomBegins()) {
            atom(here);
        }
    }

    private boolean atomBegins() {
        return isNumber() || isName(token) || Set.of("(", "fun", "let", "rec", "par").contains(token);
    }

    private void atom(int here) {
        switch (token) {
            case "(":
                must("(");
                exp(here);
                must(")");
                break;
            case "fun":
                int made = makeScope(2, here);
                next();
                roomForDeclaration();
                declare(made);
                body(made);
                break;
            case "let":
                next();
                lets(here);
                break;
            case "rec":
            case "par":
                boolean rec = token.equals("rec");
                int all = makeScope(rec ? 4 : 5, here);
                next();
                binds(all, rec ? all : here);
                break;
            default:
                if (isNumber()) {
                    next();
                } else {
                    longName(here);
                }
        }
    }

    private void body(int here) {
        must("{");
        exp(here);
        must("}");
    }

    private void lets(int here) {
        int latest = here;
        while (true) {
            roomForDeclaration();
            int made = makeScope(3, latest);
            declare(made);
            must("=");
            exp(latest);
            latest = made;
            if (!token.equals(",")) {
                break;
            }
            next();
        }
        must("in");
        body(latest);
    }

    private void binds(int names, int exps) {
        while (true) {
            roomForDeclaration();
            declare(names);
            must("=");
            exp(exps);
            if (!token.equals(",")) {
                break;
            }
            next();
        }
        must("in");
        body(names);
    }

    // ---- the calculus

    private static <T> Set<T> with(Set<T> set, T more) {
        Set<T> larger = new HashSet<>(set);
        larger.add(more);
        return larger;
    }

    private void step() {
        if (steps-- <= 0) {
            throw new TooSlow();
        }
    }

    private Set<Integer> here(String x, Set<Integer> s, int scope) {
        Set<Integer> found = new TreeSet<>();
        if (!s.contains(scope)) {
            for (int d : scopes.get(scope).declarations) {
                if (declarations.get(d).name.equals(x)) {
                    found.add(d);
                }
            }
        }
        return found;
    }

    private Set<Integer> byImports(String x, Set<Integer> i, Set<Integer> s, int scope) {
        Set<Integer> found = new TreeSet<>();
        if (s.contains(scope)) {
            return found;
        }
        for (int imported : scopes.get(scope).imports) {
            if (!i.contains(imported)) {
                for (int d : means(imported, i)) {
                    if (declarations.get(d).has >= 0) {
                        found.addAll(local(x, i, with(s, scope), declarations.get(d).has));
                    }
                }
            }
        }
        return found;
    }

    private Set<Integer> local(String x, Set<Integer> i, Set<Integer> s, int scope) {
        step();
        Set<Integer> found = here(x, s, scope);
        return found.isEmpty() ? byImports(x, i, s, scope) : found;
    }

    private Set<Integer> above(String x, Set<Integer> i, Set<Integer> s, int scope) {
        if (s.contains(scope) || scopes.get(scope).parent < 0) {
            return new TreeSet<>();
        }
        return visible(x, i, with(s, scope), scopes.get(scope).parent);
    }

    private Set<Integer> visible(String x, Set<Integer> i, Set<Integer> s, int scope) {
        Set<Integer> found = local(x, i, s, scope);
        return found.isEmpty() ? above(x, i, s, scope) : found;
    }

    private Set<Integer> means(int reference, Set<Integer> i) {
        Name name = references.get(reference);
        return visible(name.name, with(i, reference), new HashSet<>(), name.scope);
    }

    private void resolve(int r) {
        Name name = references.get(r);
        name.meant = means(r, new HashSet<>());
        if (name.meant.isEmpty()) {
            return;
        }
        Set<Integer> i = Set.of(r);
        Set<Integer> s = new HashSet<>();
        int scope = name.scope;
        name.up = 0;
        while (local(name.name, i, s, scope).isEmpty()) {
            s = with(s, scope);
            scope = scopes.get(scope).parent;
            name.up++;
        }
        name.near = here(name.name, s, scope).isEmpty() ? 0 : 1;
    }

    // ---- new names

    Set<Integer> friends(int k) {
        Set<Integer> group = new TreeSet<>(Set.of(k));
        for (boolean more = true; more; ) {
            more = false;
            for (Name name : references) {
                if (group.stream().anyMatch(name.meant::contains)) {
                    more |= group.addAll(name.meant);
                }
            }
        }
        return group;
    }

    int users(Set<Integer> group) {
        return (int) references.stream().filter(r -> group.stream().anyMatch(r.meant::contains)).count();
    }

    /** The text with the new name, whatever it then means, and however long it is. */
    String withName(int k, String newName) {
        Set<Integer> group = friends(k);
        StringBuilder made = new StringBuilder(text);
        TreeSet<Integer> places = new TreeSet<>();
        group.forEach(d -> places.add(declarations.get(d).place));
        for (Name name : references) {
            if (group.stream().anyMatch(name.meant::contains)) {
                places.add(name.place);
            }
        }
        int length = declarations.get(k).name.length();
        for (int place : places.descendingSet()) {
            made.replace(place, place + length, newName);
        }
        return made.toString();
    }

    boolean meansTheSame(Oracle other) {
        for (int r = 0; r < references.size(); r++) {
            if (!references.get(r).meant.equals(other.references.get(r).meant)) {
                return false;
            }
        }
        return true;
    }
}
