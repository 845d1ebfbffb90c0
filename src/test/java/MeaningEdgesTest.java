/** 2 SCOPES, 3 MEANING and 4 NEW NAMES: each sentence that names a boundary has a test of its own here. */
public final class MeaningEdgesTest {
    private static final int NONE = ScopeGraph.NONE;

    public static void main(String[] args) {
        scopes();
        meaning();
        newNames();
        Check.finish(500);
    }

    private static void scopes() {
        Check.sentence("are numbered from 0, the program's, as the text makes them, from the left", MeaningEdgesTest::scopesInOrder);
        Check.sentence("Each has a PARENT (but the program's, and LONG ones)", MeaningEdgesTest::noParents);
        Check.sentence("Declarations, and references, are numbered from 0 as they stand in the text", MeaningEdgesTest::namesInOrder);
        Check.sentence("module: the declaration HAS a new scope, whose parent that is", MeaningEdgesTest::modules);
        Check.sentence("def: its NAME is declared; the EXP is in the same scope", MeaningEdgesTest::defs);
        Check.sentence("fun: its NAME is declared in it, its EXP is in it", MeaningEdgesTest::funs);
        Check.sentence("rec: all its NAMES are declared in it, all EXPS are in it", MeaningEdgesTest::recs);
        Check.sentence("par: but the EXPS of its BINDS are where it stands", MeaningEdgesTest::pars);
        Check.sentence("let: the parent being that of the bind before (of the first, where it stands)", MeaningEdgesTest::lets);
        Check.sentence("let: the last EXP is in the last one's", MeaningEdgesTest::bodiesOfLets);
        Check.sentence("LONG: its first NAME is a reference in the scope where it stands", MeaningEdgesTest::firstsOfLongs);
        Check.sentence("a new LONG scope, without parent and declarations, that imports the reference before", MeaningEdgesTest::restsOfLongs);
        Check.sentence("What stands behind import is imported by its last reference", MeaningEdgesTest::importsByTheLast);
    }

    private static void meaning() {
        Check.sentence("HERE of a scope: its declarations of x", MeaningEdgesTest::here);
        Check.sentence("BY IMPORTS of a scope: all that are LOCAL in scopes that are had by declarations", MeaningEdgesTest::byImports);
        Check.sentence("some import of it that is not in I", MeaningEdgesTest::seenImports);
        Check.sentence("LOCAL in a scope: HERE, if there are any; else BY IMPORTS", MeaningEdgesTest::local);
        Check.sentence("ABOVE of a scope: none, if it has no parent", MeaningEdgesTest::above);
        Check.sentence("VISIBLE in a scope: LOCAL, if there are any; else ABOVE", MeaningEdgesTest::visible);
        Check.sentence("(Each MEANS of a reference has its own name x.)", MeaningEdgesTest::ownNames);
        Check.sentence("It means what it MEANS with I empty", MeaningEdgesTest::nothingSeenAtFirst);
        Check.sentence("imports that may go in rings", MeaningEdgesTest::rings);
        Check.sentence("references that mean nothing", MeaningEdgesTest::meaningNothing);
        Check.sentence("references that mean more than one declaration", MeaningEdgesTest::meaningMany);
        Check.sentence("UP is how many scopes above the one that it stands in these are LOCAL", MeaningEdgesTest::up);
        Check.sentence("NEAR whether they are HERE there", MeaningEdgesTest::near);
    }

    private static void newNames() {
        Check.sentence("FRIENDS of a declaration: it", MeaningEdgesTest::alone);
        Check.sentence("declarations that some reference means that also means a friend", MeaningEdgesTest::friends);
        Check.sentence("it and all its friends, and all references that mean one of them, get a new name", MeaningEdgesTest::renamedAll);
        Check.sentence("It is REFUSED, if some reference would mean another set of declarations then", MeaningEdgesTest::refused);
        Check.sentence("REFUSED by what is imported", MeaningEdgesTest::refusedByImports);
        Check.sentence("not REFUSED, if every reference means what it meant", MeaningEdgesTest::notRefused);
        Check.sentence("Methods throw what their comments name, the one named first when several would do",
                MeaningEdgesTest::severalWouldDo);
        Check.sentence("A call that throws changes nothing.", MeaningEdgesTest::throwsChangeNothing);
    }

    private static void means(ScopeGraph graph, int k, String due) {
        Check.due("what reference " + k + " means", Check.meaning(graph, k), due);
    }

    // ---- 2 SCOPES

    private static void scopesInOrder() {
        ScopeGraph graph = Check.reading("def a=let x=fun y{1},z=fun w{2} in{fun v{3}} rec p=fun q{4} in{5}"
                + " par r=fun s{A.b.c} in{fun t{6}};module M{module N{}}import A.B;");
        int[] parents = {NONE, 0, 0, 1, 1, 3, 0, 6, 0, 0, NONE, NONE, 8, 0, 13, NONE};
        int[] kinds = {0, 3, 2, 3, 2, 2, 4, 2, 5, 2, 6, 6, 2, 1, 1, 6};
        Check.due("scopes", graph.count(0), kinds.length);
        for (int k = 0; k < kinds.length; k++) {
            Check.scopeIs(graph, k, parents[k], kinds[k]);
        }
    }

    private static void noParents() {
        Check.due("the parent of the only scope", Check.reading("").scope(0, 0), NONE);
        ScopeGraph graph = Check.reading("module M{def a=fun x{let y=1 in{rec z=2 in{par u=3 in{A.b}}}};}import M.N;");
        int[] parents = {NONE, 0, 1, 2, 3, 4, NONE, NONE};
        for (int k = 0; k < parents.length; k++) {
            Check.scopeIs(graph, k, parents[k]);
        }
    }

    private static void namesInOrder() {
        String text = "module a{def b=c fun d{e};}import f.g;def h=let i=j,k=l in{m};";
        ScopeGraph graph = Check.reading(text);
        String declared = "abdhik";
        String referred = "cefgjlm";
        Check.due("declarations", graph.count(1), declared.length());
        Check.due("references", graph.count(2), referred.length());
        for (int k = 0; k < declared.length(); k++) {
            Check.due("the name of declaration " + k, graph.letter(graph.declaration(k, 1)), declared.charAt(k));
        }
        for (int k = 0; k < referred.length(); k++) {
            Check.due("the name of reference " + k, graph.letter(graph.reference(k, 1)), referred.charAt(k));
        }
    }

    private static void modules() {
        ScopeGraph graph = Check.reading("module M{module N{def x=1;}}module O{}");
        Check.declarationIs(graph, 0, 0, 7, 1);
        Check.declarationIs(graph, 1, 1, 16, 2);
        Check.declarationIs(graph, 2, 2, 22, NONE);
        Check.declarationIs(graph, 3, 0, 35, 3);
        Check.scopeIs(graph, 1, 0, 1, 1, 0, 0);
        Check.scopeIs(graph, 2, 1, 1, 1, 0, 0);
        Check.scopeIs(graph, 3, 0, 1, 0, 0, 0);
    }

    private static void defs() {
        ScopeGraph graph = Check.reading("def a=a b;module M{def b=b a;}");
        Check.declarationIs(graph, 0, 0, 4, NONE);
        Check.declarationIs(graph, 2, 1, 23, NONE);
        Check.scopeIs(graph, 0, NONE, 0, 2, 2, 0);
        Check.scopeIs(graph, 1, 0, 1, 1, 2, 0);
        means(graph, 0, "0");
        means(graph, 1, "");
        means(graph, 2, "2");
        means(graph, 3, "0");
    }

    private static void funs() {
        ScopeGraph graph = Check.reading("def a=x fun x{x fun x{x}x}x;");
        Check.scopeIs(graph, 1, 0, 2, 1, 2, 0);
        Check.scopeIs(graph, 2, 1, 2, 1, 1, 0);
        String[] due = {"", "1", "2", "1", ""};
        for (int k = 0; k < due.length; k++) {
            means(graph, k, due[k]);
        }
    }

    private static void recs() {
        ScopeGraph graph = Check.reading("def a=x rec x=x y,y=x y in{x y}x;");
        Check.scopeIs(graph, 0, NONE, 0, 1, 2, 0);
        Check.scopeIs(graph, 1, 0, 4, 2, 6, 0);
        String[] due = {"", "1", "2", "1", "2", "1", "2", ""};
        for (int k = 0; k < due.length; k++) {
            means(graph, k, due[k]);
        }
    }

    private static void pars() {
        ScopeGraph graph = Check.reading("def x=0;def a=par x=x y,y=x y in{x y}x;");
        Check.scopeIs(graph, 0, NONE, 0, 2, 5, 0);
        Check.scopeIs(graph, 1, 0, 5, 2, 2, 0);
        String[] due = {"0", "", "0", "", "2", "3", "0"};
        for (int k = 0; k < due.length; k++) {
            means(graph, k, due[k]);
        }
    }

    private static void lets() {
        ScopeGraph graph = Check.reading("def x=0;def a=fun f{let x=x y,y=x y,x=x y in{x y}x};");
        Check.scopeIs(graph, 1, 0, 2, 1, 3, 0);
        Check.scopeIs(graph, 2, 1, 3, 1, 2, 0);
        Check.scopeIs(graph, 3, 2, 3, 1, 2, 0);
        Check.scopeIs(graph, 4, 3, 3, 1, 2, 0);
        String[] due = {"0", "", "3", "", "3", "4", "5", "4", "0"};
        for (int k = 0; k < due.length; k++) {
            means(graph, k, due[k]);
        }
    }

    private static void bodiesOfLets() {
        ScopeGraph one = Check.reading("def a=let x=b in{x};");
        Check.referenceIs(one, 0, 0);
        Check.referenceIs(one, 1, 1);
        ScopeGraph three = Check.reading("def a=let x=b,y=c,z=d in{x y z};");
        for (int k = 0; k < 3; k++) {
            Check.referenceIs(three, k, k);
            Check.referenceIs(three, 3 + k, 3);
        }
    }

    private static void firstsOfLongs() {
        ScopeGraph graph = Check.reading("def a=b.c;module M{import d.e;def f=fun g{h.i};}");
        Check.referenceIs(graph, 0, 0);
        Check.referenceIs(graph, 2, 2);
        Check.referenceIs(graph, 4, 4);
        Check.scopeIs(graph, 0, NONE, 0, 2, 1, 0);
        Check.scopeIs(graph, 2, 0, 1, 1, 1, 1);
        Check.scopeIs(graph, 4, 2, 2, 1, 1, 0);
    }

    private static void restsOfLongs() {
        ScopeGraph graph = Check.reading("def a=b.c.d;");
        Check.referenceIs(graph, 0, 0, 6, 1);
        Check.referenceIs(graph, 1, 1, 8, 2);
        Check.referenceIs(graph, 2, 2, 10, NONE);
        Check.scopeIs(graph, 1, NONE, 6, 0, 1, 1);
        Check.scopeIs(graph, 2, NONE, 6, 0, 1, 1);
        Check.due("imports", graph.count(3), 2);
    }

    private static void importsByTheLast() {
        ScopeGraph graph = Check.reading("import a;module M{import b.c.d;import e;}");
        int[] importers = {0, 2, 3, 1, 1};
        for (int k = 0; k < importers.length; k++) {
            Check.due("what imports reference " + k, graph.reference(k, 2), importers[k]);
        }
        Check.scopeIs(graph, 0, NONE, 0, 1, 1, 1);
        Check.scopeIs(graph, 1, 0, 1, 0, 2, 2);
        Check.due("imports", graph.count(3), 5);
    }

    // ---- 3 MEANING

    private static void here() {
        ScopeGraph graph = Check.reading("def b=a;def a=1;def a=2;def c=a;module M{def a=3;}");
        means(graph, 0, "1 2");
        means(graph, 1, "1 2");
        ScopeGraph sixty = Check.reading("def a=a;" + "def a=1;".repeat(59));
        Check.due("sixty of one name", sixty.reference(0, 3), 60);
        Check.due("the first of them", sixty.meant(0, 0), 0);
        Check.due("the last of them", sixty.meant(0, 59), 59);
    }

    private static void byImports() {
        ScopeGraph two = Check.reading("module A{def x=1;}module B{def x=2;}module C{import A;import B;def c=x;}");
        means(two, 2, "1 3");
        ScopeGraph same = Check.reading("module A{def x=1;}module A{def x=2;}module C{import A;def c=x;}");
        means(same, 0, "0 2");
        means(same, 1, "1 3");
        ScopeGraph three = Check.reading("def z=0;module A{def x=1;}module A{def x=2;}def A=3;module A{def x=4;}import A;def c=x;");
        means(three, 0, "1 3 5 6");
        means(three, 1, "2 4 7");
        ScopeGraph noScope = Check.reading("def A=1;def x=1;module C{import A;import Z;def c=x y;}def d=A.x;");
        String[] due = {"0", "", "1", "", "0", ""};
        for (int k = 0; k < due.length; k++) {
            means(noScope, k, due[k]);
        }
        Check.due("x is found above, not behind the import", noScope.reference(2, 4), 1);
        ScopeGraph far = Check.reading("module A{def x=1;}module B{import A;}module C{import B;}module D{import C;}"
                + "module E{import D;}module F{import E;}module G{import F;def g=x;}");
        means(far, 6, "1");
        Check.referenceIs(far, 6, 7, 137, NONE, 1, 0, 0);
    }

    private static void seenImports() {
        ScopeGraph one = Check.reading("module A{module A{def a=1;}}module C{import A;def c=a A;}");
        means(one, 0, "0");
        means(one, 1, "");
        means(one, 2, "1");
        ScopeGraph two = Check.reading("module A{module A{def a=1;}}module C{import A;import A;def c=a;}");
        means(two, 0, "1");
        means(two, 1, "1");
        means(two, 2, "2");
        ScopeGraph inLong = Check.reading("module A{module B{module A{def a=1;}}}module C{import A.B;def c=a A;}");
        means(inLong, 0, "0");
        means(inLong, 1, "1");
        means(inLong, 2, "");
        means(inLong, 3, "2");
    }

    private static void local() {
        ScopeGraph graph = Check.reading("module A{def x=1;def y=1;}module B{import A;def x=2;def b=x y;}module C{import B;def c=x y;}");
        means(graph, 1, "4");
        means(graph, 2, "2");
        means(graph, 4, "4");
        means(graph, 5, "2");
        ScopeGraph late = Check.reading("module B{def b=x;def x=2;import A;}module A{def x=1;}");
        means(late, 0, "2");
    }

    private static void above() {
        ScopeGraph program = Check.reading("def a=b;");
        means(program, 0, "");
        ScopeGraph longs = Check.reading("def x=1;module A{def y=2;}def a=A.x A.y;module B{import A;def b=x;}");
        means(longs, 1, "");
        means(longs, 3, "2");
        means(longs, 5, "0");
        ScopeGraph imported = Check.reading("module O{def x=1;module A{}}module B{import O.A;def b=x;}");
        means(imported, 1, "2");
        means(imported, 2, "");
    }

    private static void visible() {
        ScopeGraph graph = Check.reading("def x=1;module A{def x=2;}module B{import A;def b=fun y{x y};def c=fun x{x};}");
        means(graph, 1, "2");
        means(graph, 2, "5");
        means(graph, 3, "7");
        ScopeGraph nested = Check.reading("def x=1;module M{def m=x;module N{def x=2;module O{def o=x;}}}");
        means(nested, 0, "0");
        means(nested, 1, "4");
    }

    private static void ownNames() {
        ScopeGraph graph = Check.reading("module x{def A=1;}module A{def x=2;}module B{import A;def b=x A;}");
        means(graph, 0, "2");
        means(graph, 1, "3");
        means(graph, 2, "2");
        ScopeGraph rest = Check.reading("module x{module x{def x=1;}}def a=x.x.x x.x x;");
        String[] due = {"0", "1", "2", "0", "1", "0"};
        for (int k = 0; k < due.length; k++) {
            means(rest, k, due[k]);
        }
    }

    /**
     * Each import finds its module behind the other one, which then finds its own above; the names
     * of the modules find nothing behind both of them, so they go above themselves.
     */
    private static void nothingSeenAtFirst() {
        ScopeGraph graph = Check.reading("module A{module B{def x=1;}}module B{module A{def y=1;}}"
                + "module C{import A;import B;def c=A B x y;}");
        String[] due = {"4", "1", "0", "3", "2", "5"};
        for (int k = 0; k < due.length; k++) {
            means(graph, k, due[k]);
        }
    }

    private static void rings() {
        ScopeGraph own = Check.reading("module A{import A;def a=a b A;}");
        means(own, 0, "0");
        means(own, 1, "1");
        means(own, 2, "");
        means(own, 3, "0");
        ScopeGraph two = Check.reading("module A{import B;def a=a b z;}module B{import A;def b=a b z;}");
        String[] due = {"2", "1", "3", "", "0", "1", "3", ""};
        for (int k = 0; k < due.length; k++) {
            means(two, k, due[k]);
        }
        StringBuilder text = new StringBuilder();
        for (int m = 0; m < 6; m++) {
            text.append("module M" + m + "{import M" + (m + 1) % 6 + ";def d" + m + "=d0 d1 d2 d3 d4 d5 d6;}");
        }
        ScopeGraph six = Check.reading(text.toString());
        for (int m = 0; m < 6; m++) {
            means(six, 8 * m, "" + (m + 1) % 6 * 2);
            for (int d = 0; d < 6; d++) {
                means(six, 8 * m + 1 + d, "" + (2 * d + 1));
                Check.due("NEAR", six.reference(8 * m + 1 + d, 5), d == m ? 1 : 0);
            }
            means(six, 8 * m + 7, "");
        }
        ScopeGraph program = Check.reading("import A;module A{import B;}module B{import A;def x=1;}def a=x z;");
        means(program, 3, "2");
        means(program, 4, "");
    }

    private static void meaningNothing() {
        ScopeGraph graph = Check.reading("def a=b;");
        Check.referenceIs(graph, 0, 0, 6, NONE, 0, NONE, NONE);
        Check.due("count(4)", graph.count(4), 1);
        Check.due("count(5)", graph.count(5), 0);
        Check.outside("meant(0, 0)", () -> graph.meant(0, 0));
        ScopeGraph all = Check.reading("def a=" + "b ".repeat(100) + ";");
        Check.due("a hundred that mean nothing", all.count(4), 100);
        ScopeGraph rest = Check.reading("import A.B.C;");
        Check.due("behind what means nothing", rest.count(4), 3);
        for (int k = 0; k < 3; k++) {
            Check.due("UP", rest.reference(k, 4), NONE);
            Check.due("NEAR", rest.reference(k, 5), NONE);
        }
    }

    private static void meaningMany() {
        ScopeGraph graph = Check.reading("def a=1;def a=2;def b=a b;");
        Check.due("count(5): two are more than one, one is not", graph.count(5), 1);
        Check.due("count(4)", graph.count(4), 0);
        Check.referenceIs(graph, 0, 0, 22, NONE, 2, 0, 1);
        Check.declarationIs(graph, 0, 0, 4, NONE, 2, 1);
        ScopeGraph all = Check.reading("def a=" + "a ".repeat(100) + ";" + "def a=1;".repeat(59));
        Check.due("a hundred that mean sixty", all.count(5), 100);
        Check.declarationIs(all, 59, 0, 207 + 58 * 8 + 4, NONE, 60, 100);
    }

    private static void up() {
        ScopeGraph graph = Check.reading("def a=1;def b=fun c{a c};");
        Check.due("one above", graph.reference(0, 4), 1);
        Check.due("none above", graph.reference(1, 4), 0);
        ScopeGraph most = Check.reading("def a=let x0=1" + ",x=a".repeat(58) + " in{a};");
        for (int k = 0; k < 59; k++) {
            Check.due("UP of reference " + k, most.reference(k, 4), k + 1);
        }
        ScopeGraph imports = Check.reading("module A{def x=1;}module B{import A;def b=fun c{fun d{x}};}");
        Check.due("UP to the scope that imports, not to that which declares", imports.reference(1, 4), 2);
        ScopeGraph first = Check.reading("module A{def x=1;}def a=fun b{A.x};");
        Check.due("UP of a LONG's first", first.reference(0, 4), 1);
        Check.due("UP of its last", first.reference(1, 4), 0);
    }

    private static void near() {
        ScopeGraph graph = Check.reading("module A{def x=1;}module B{import A;def y=2;def b=x y fun c{x y A};}def d=A.x;");
        int[] nears = {1, 0, 1, 0, 1, 1, 1, 0};
        for (int k = 0; k < nears.length; k++) {
            Check.due("NEAR of reference " + k, graph.reference(k, 5), nears[k]);
        }
    }

    // ---- 4 NEW NAMES

    private static void alone() {
        ScopeGraph graph = Check.reading("def a=b;def a=2;def c=c;");
        for (int k = 0; k < 3; k++) {
            Check.due("friends of declaration " + k, graph.declaration(k, 3), 1);
            for (int j = 0; j < 3; j++) {
                Check.due("friends(" + k + ", " + j + ")", graph.friends(k, j) ? 1 : 0, k == j ? 1 : 0);
            }
        }
    }

    private static void friends() {
        ScopeGraph chain = Check.reading("module A{def x=1;}module B{def x=2;}module C{def x=3;}module D{def x=4;}"
                + "module P{import A;import B;def p=x;}module Q{import C;import D;def q=x;}module R{import B;import C;def r=x;}");
        int[] all = {1, 3, 5, 7};
        for (int k : all) {
            Check.due("friends of declaration " + k, chain.declaration(k, 3), 4);
            for (int j : all) {
                Check.due("friends(" + k + ", " + j + ")", chain.friends(k, j) ? 1 : 0, 1);
            }
            Check.due("friends(" + k + ", 0)", chain.friends(k, 0) ? 1 : 0, 0);
        }
        ScopeGraph sixty = Check.reading("def a=a;" + "def a=1;".repeat(59));
        Check.due("friends of the first of sixty", sixty.declaration(0, 3), 60);
        Check.due("friends of the last of sixty", sixty.declaration(59, 3), 60);
        Check.due("the first and the last", sixty.friends(0, 59) && sixty.friends(59, 0) ? 1 : 0, 1);
    }

    private static void renames(ScopeGraph graph, int k, String name, int answer, String text) {
        String what = "rename(" + k + ") to " + name;
        Check.due(what, Check.renamed(graph, k, name), answer);
        Check.textIs(what, graph, text);
    }

    private static void renamedAll() {
        ScopeGraph graph = Check.reading("module A{def x=1;}module B{def x=2;}module P{import A;import B;def p=x;}def x=A.x B.x x;");
        renames(graph, 1, "yy", 5, "module A{def yy=1;}module B{def yy=2;}module P{import A;import B;def p=yy;}def x=A.yy B.yy x;");
        renames(graph, 6, "yy", 2, "module A{def yy=1;}module B{def yy=2;}module P{import A;import B;def p=yy;}def yy=A.yy B.yy yy;");
        ScopeGraph alone = Check.reading("def a=b;");
        renames(alone, 0, "c", 1, "def c=b;");
        ScopeGraph all = Check.reading("def a=" + "a ".repeat(100) + ";" + "def a=1;".repeat(59));
        Check.due("at a hundred and sixty places", Check.renamed(all, 30, "bc"), 160);
        Check.due("bytes", all.count(6), 207 + 59 * 8 + 160);
        Check.due("the last place", all.declaration(59, 1), 207 + 58 * 8 + 4 + 159);
    }

    private static void refuses(String text, int k, String name) {
        ScopeGraph graph = Check.reading(text);
        Check.type(graph, name);
        String before = Check.state(graph);
        Check.due("rename(" + k + ") to " + name + " in " + text, graph.rename(k), ScopeGraph.REFUSED);
        Check.due("the state then", Check.state(graph), before);
    }

    private static void refused() {
        refuses("def a=1;def f=fun b{a};", 0, "b");
        refuses("def a=1;def f=fun b{a b};", 2, "a");
        refuses("def a=1;def b=a;", 1, "a");
        refuses("def a=1;def b=a;", 0, "b");
        refuses("def a=1;def c=b;", 0, "b");
        refuses("def a=b;", 0, "b");
        refuses("def a=1;def a=2;def b=a;", 1, "b");
        refuses("def a=let x=1,y=2 in{x};", 2, "x");
        refuses("def a=rec x=1,y=2 in{x y};", 1, "y");
        refuses("module A{}def x=A.y;module B{def A=1;}module C{import B;import A;}", 0, "B");
    }

    private static void refusedByImports() {
        refuses("module A{def x=1;}module B{import A;def y=2;def z=x;}", 3, "x");
        refuses("module A{def x=1;}module B{import A;def y=2;def z=x;}", 1, "y");
        refuses("module A{def x=1;}module B{def y=2;}module C{import A;import B;def c=x;}", 3, "x");
        refuses("module A{module C{def x=1;}}module B{import A;import C;def z=x;}", 1, "A");
        refuses("module A{module C{}}module B{import A;import C;}", 0, "C");
        refuses("module A{def x=1;}module B{def y=2;}def z=A.x;", 2, "A");
        refuses("module A{def x=1;def y=2;}def z=A.x A.y;", 1, "y");
    }

    private static void notRefused() {
        renames(Check.reading("def a=1;def b=2;"), 0, "b", 1, "def b=1;def b=2;");
        renames(Check.reading("def a=1;def f=fun b{b};"), 0, "b", 1, "def b=1;def f=fun b{b};");
        renames(Check.reading("def a=1;def f=fun b{b};"), 2, "a", 2, "def a=1;def f=fun a{a};");
        renames(Check.reading("def a=a;"), 0, "a", 2, "def a=a;");
        renames(Check.reading("module A{def x=1;}def z=A.x;"), 0, "x", 2, "module x{def x=1;}def z=x.x;");
    }

    private static void severalWouldDo() {
        ScopeGraph graph = Check.reading("def a=b;");
        Check.outside("scope with both outside", () -> graph.scope(1, 5));
        Check.outside("declaration with both outside", () -> graph.declaration(1, 5));
        Check.outside("reference with both outside", () -> graph.reference(1, 6));
        Check.outside("meant with both outside", () -> graph.meant(1, 0));
        Check.outside("friends with both outside", () -> graph.friends(1, -1) ? 1 : 0);
        Check.outside("rename outside, with a tape that is no NAME", () -> graph.rename(1));
    }

    private static void throwsChangeNothing() {
        ScopeGraph graph = Check.reading("module A{def x=x y;}import A;");
        Check.type(graph, "#");
        graph.read();
        Check.type(graph, "name");
        String before = Check.state(graph);
        for (int k : new int[] {-1, 2, 3, 64, Integer.MIN_VALUE, Integer.MAX_VALUE}) {
            Check.outside("scope", () -> graph.scope(k, 0));
            Check.outside("scope's what", () -> graph.scope(0, k < 5 && k >= 0 ? 5 : k));
            Check.outside("declaration", () -> graph.declaration(k, 0));
            Check.outside("reference", () -> graph.reference(k < 3 && k >= 0 ? 3 : k, 0));
            Check.outside("meant", () -> graph.meant(0, k));
            Check.outside("friends", () -> graph.friends(k, 0) ? 1 : 0);
            Check.outside("rename", () -> graph.rename(k));
            Check.outside("letter", () -> graph.letter(k >= 0 ? graph.count(6) : k));
            Check.outside("count", () -> graph.count(k < 8 && k >= 0 ? 8 : k));
        }
        Check.thrown("end", IllegalArgumentException.class, () -> ended(graph, -1));
        Check.thrown("end", IllegalArgumentException.class, () -> ended(graph, 5));
        Check.due("the state behind all these", Check.state(graph), before);
        Check.due("the tape is still the name", graph.rename(1), 2);
        Check.textIs("and becomes it", graph, "module A{def name=name y;}import A;");
        fullTapeThrows();
    }

    private static int ended(ScopeGraph graph, int n) {
        graph.end(n);
        return 0;
    }

    private static void fullTapeThrows() {
        ScopeGraph graph = Check.reading("def a=1;");
        Check.type(graph, "def b=2;" + " ".repeat(3992));
        String before = Check.state(graph);
        Check.thrown("feed", UnsupportedOperationException.class, () -> graph.feed(-1, -1, -1, -1, -1));
        Check.due("the state behind it", Check.state(graph), before);
        Check.due("read() of the tape as it was", graph.read(), 1);
        Check.due("its first declaration", graph.letter(4), 'b');
        Check.due("its last byte", graph.letter(3999), ' ');
    }
}
