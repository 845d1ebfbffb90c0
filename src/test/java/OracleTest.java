import java.util.Arrays;
import java.util.Random;
import java.util.Set;

/**
 * Random texts, right and wrong ones, and random renamings of them, against the oracle. It asks an
 * object more than the 512 calls that the document speaks of: this class answers on and on.
 */
public final class OracleTest {
    private static final int TEXTS = 6000;
    private static final long MOST_STEPS = 60_000;

    private static int slow = 0;
    private static final int[] faults = new int[6];
    private static int refused = 0;
    private static int renamed = 0;
    private static int many = 0;
    private static int byImport = 0;

    public static void main(String[] args) {
        for (int seed = 0; seed < TEXTS; seed++) {
            one(seed);
        }
        System.out.println(TEXTS + " texts: faults 1 to 5 " + Arrays.toString(faults) + ", " + slow + " left out as too slow, "
                + renamed + " renamed, " + refused + " refused, " + many
                + " references that mean more than one, " + byImport + " that mean by imports");
        Check.due("enough of each", Math.min(renamed, Math.min(refused, many)) > 300 ? 1 : 0, 1);
        for (int code = 1; code < faults.length; code++) {
            Check.due("enough of fault " + code, faults[code] > 50 ? 1 : 0, 1);
        }
        Check.due("few left out", slow * 5 < TEXTS ? 1 : 0, 1);
        Check.finish(100_000);
    }

    private static void one(int seed) {
        Random random = new Random(seed);
        String text = new RandomText(random).make();
        if (seed % 4 == 0) {
            text = crowded(text, random);
        }
        if (random.nextInt(5) == 0) {
            text = spoiled(text, random);
        }
        if (text.length() > 4000) {
            text = text.substring(0, 4000);
        }
        String what = "seed " + seed;
        ScopeGraph graph = new ScopeGraph();
        Check.type(graph, text);
        int answer = graph.read();
        try {
            Oracle oracle = new Oracle(text, MOST_STEPS);
            Check.due(what + ": read()", answer, oracle.scopes.size());
            Check.due(what + ": fault()", graph.fault(), 0);
            compare(what, graph, oracle);
            renameSome(what, graph, oracle, random);
        } catch (Oracle.Fault fault) {
            faults[fault.code]++;
            Check.due(what + ": read()", answer, -1 - fault.place);
            Check.due(what + ": fault()", graph.fault(), fault.code);
            Check.due(what + ": the text stays", graph.count(6), 0);
        } catch (Oracle.TooSlow e) {
            slow++;
        }
    }

    /** Leaves the text room for few declarations, references, scopes or brackets. */
    private static String crowded(String text, Random random) {
        int less = random.nextInt(9);
        switch (random.nextInt(5)) {
            case 0: return "def q=1;".repeat(60 - less) + text;
            case 1: return "def q=" + "q ".repeat(100 - less) + ";" + text;
            case 2: return "def q=q" + ".q".repeat(63 - less) + ";" + text;
            case 3: return "module q{".repeat(20 - less) + text + "}".repeat(20 - less);
            default: return "def q=1;".repeat(59 - random.nextInt(9)) + "def q=" + "q ".repeat(36 - random.nextInt(9)) + "q"
                    + ".q".repeat(63 - less) + ";" + text;
        }
    }

    private static String spoiled(String text, Random random) {
        StringBuilder made = new StringBuilder(text);
        String bits = "{}()=+.,;  a9_#\tin";
        for (int n = random.nextInt(3); n >= 0 && made.length() > 0; n--) {
            int at = random.nextInt(made.length());
            switch (random.nextInt(3)) {
                case 0: made.deleteCharAt(at); break;
                case 1: made.setCharAt(at, bits.charAt(random.nextInt(bits.length()))); break;
                default: made.insert(at, bits.charAt(random.nextInt(bits.length())));
            }
        }
        return made.toString();
    }

    private static void renameSome(String what, ScopeGraph graph, Oracle first, Random random) {
        Oracle oracle = first;
        String[] names = {"a", "b", "c", "A", "B", "_a", "abcdefghijka", "longer", "_", "let", "1a", "a ", "", "abcdefghijkl", "abcdefghijklm"};
        for (int n = 0; n < 6 && !oracle.declarations.isEmpty(); n++) {
            int k = random.nextInt(oracle.declarations.size());
            String name = names[random.nextInt(names.length)];
            String whole = what + ", rename " + n + " of " + k + " to " + name;
            int places = oracle.friends(k).size() + oracle.users(oracle.friends(k));
            int answer = Check.renamed(graph, k, name);
            if (!Oracle.isName(name)) {
                Check.due(whole, answer, ScopeGraph.NO_NAME);
                Check.due(whole + ": the tape", graph.count(7), name.length());
                continue;
            }
            Oracle then = new Oracle(oracle.withName(k, name), MOST_STEPS);
            if (!oracle.meansTheSame(then)) {
                refused++;
                Check.due(whole, answer, ScopeGraph.REFUSED);
            } else if (then.text.length() > 4000) {
                Check.due(whole, answer, ScopeGraph.TOO_LONG);
            } else {
                renamed++;
                Check.due(whole, answer, places);
                oracle = then;
            }
            Check.due(whole + ": the tape", graph.count(7), answer < 0 ? name.length() : 0);
            compare(whole, graph, oracle);
        }
    }

    private static void compare(String what, ScopeGraph graph, Oracle oracle) {
        Check.textIs(what, graph, oracle.text);
        Check.due(what + ": count(0)", graph.count(0), oracle.scopes.size());
        Check.due(what + ": count(1)", graph.count(1), oracle.declarations.size());
        Check.due(what + ": count(2)", graph.count(2), oracle.references.size());
        Check.due(what + ": count(3)", graph.count(3), oracle.references.stream().filter(r -> r.importer >= 0).count());
        Check.due(what + ": count(4)", graph.count(4), oracle.references.stream().filter(r -> r.meant.isEmpty()).count());
        Check.due(what + ": count(5)", graph.count(5), oracle.references.stream().filter(r -> r.meant.size() > 1).count());
        compareScopes(what, graph, oracle);
        compareDeclarations(what, graph, oracle);
        compareReferences(what, graph, oracle);
    }

    private static void compareScopes(String what, ScopeGraph graph, Oracle oracle) {
        for (int k = 0; k < oracle.scopes.size(); k++) {
            Oracle.Scope scope = oracle.scopes.get(k);
            int[] due = {scope.parent, scope.kind, scope.declarations.size(), scope.references.size(), scope.imports.size()};
            for (int i = 0; i < due.length; i++) {
                Check.due(what + ": scope(" + k + ", " + i + ")", graph.scope(k, i), due[i]);
            }
        }
    }

    private static void compareDeclarations(String what, ScopeGraph graph, Oracle oracle) {
        for (int k = 0; k < oracle.declarations.size(); k++) {
            Oracle.Name name = oracle.declarations.get(k);
            Set<Integer> friends = oracle.friends(k);
            int[] due = {name.scope, name.place, name.has, friends.size(), oracle.users(Set.of(k))};
            for (int i = 0; i < due.length; i++) {
                Check.due(what + ": declaration(" + k + ", " + i + ")", graph.declaration(k, i), due[i]);
            }
            for (int j = 0; j < oracle.declarations.size(); j++) {
                Check.due(what + ": friends(" + k + ", " + j + ")", graph.friends(k, j) ? 1 : 0, friends.contains(j) ? 1 : 0);
            }
        }
    }

    private static void compareReferences(String what, ScopeGraph graph, Oracle oracle) {
        for (int k = 0; k < oracle.references.size(); k++) {
            Oracle.Name name = oracle.references.get(k);
            int[] due = {name.scope, name.place, name.importer, name.meant.size(), name.up, name.near};
            for (int i = 0; i < due.length; i++) {
                Check.due(what + ": reference(" + k + ", " + i + ")", graph.reference(k, i), due[i]);
            }
            int i = 0;
            for (int d : name.meant) {
                Check.due(what + ": meant(" + k + ", " + i + ")", graph.meant(k, i), d);
                i++;
            }
            final int size = i;
            final int reference = k;
            Check.outside(what + ": meant(" + k + ", " + i + ")", () -> graph.meant(reference, size));
            many += size > 1 ? 1 : 0;
            byImport += name.near == 0 ? 1 : 0;
        }
    }
}
