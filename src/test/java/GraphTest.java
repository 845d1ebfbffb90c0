/** Promises 6 to 10: count, scope, declaration, reference and meant. */
public final class GraphTest {
    public static void main(String[] args) {
        counts();
        kindsOfScopes();
        declarationsOfLets();
        longNames();
        rings();
        shadows();
        seenImports();
        manyMeant();
        nearAndUp();
        manyImportsInRings();
        likeNames();
        readAgain();
        behindFaults();
        Check.finish(250);
    }

    private static void counts() {
        ScopeGraph graph = Check.reading("module M{def x=1;def x=2;} import M; import M.N.O; def y = x q M.x;");
        int[] due = {5, 4, 8, 5, 3, 2, 67, 0};
        for (int what = 0; what < due.length; what++) {
            Check.due("count(" + what + ")", graph.count(what), due[what]);
        }
        Check.type(graph, "abc");
        Check.due("count(7) with a tape", graph.count(7), 3);
    }

    private static void kindsOfScopes() {
        ScopeGraph graph = Check.reading("module M { import A.B; def a = fun b { let c = b, d = c in { rec e = d, f = e in {"
                + " par g = f, h = g in { h } } } }; } import M;");
        Check.scopeIs(graph, 0, -1, 0, 1, 1, 1);
        Check.scopeIs(graph, 1, 0, 1, 1, 1, 1);
        Check.scopeIs(graph, 2, -1, 6, 0, 1, 1);
        Check.scopeIs(graph, 3, 1, 2, 1, 1, 0);
        Check.scopeIs(graph, 4, 3, 3, 1, 1, 0);
        Check.scopeIs(graph, 5, 4, 3, 1, 0, 0);
        Check.scopeIs(graph, 6, 5, 4, 2, 4, 0);
        Check.scopeIs(graph, 7, 6, 5, 2, 1, 0);
        Check.due("scopes", graph.count(0), 8);
        Check.outside("scope(8, 0)", () -> graph.scope(8, 0));
    }

    private static void declarationsOfLets() {
        ScopeGraph graph = Check.reading("def a = 0; def r = let a = a, b = a in { a } rec a = b, b = a in { b }"
                + " par a = a, b = b in { a b } let c = fun a { a } , d = fun a { c } in { c d };");
        // let: each bind's EXP is in the scope before its own
        Check.referenceIs(graph, 0, 0, 27, -1, 1, 0, 1);
        Check.due("the first bind's a is the def's", Check.meaning(graph, 0), "0");
        Check.referenceIs(graph, 1, 1, 34, -1, 1, 0, 1);
        Check.due("the second bind's a is the first's", Check.meaning(graph, 1), "2");
        Check.referenceIs(graph, 2, 2, 41, -1, 1, 1, 1);
        Check.due("the body's a too", Check.meaning(graph, 2), "2");
        Check.declarationIs(graph, 2, 1, 23, -1, 1, 2);
        Check.declarationIs(graph, 3, 2, 30, -1, 1, 0);
        // rec: all in one scope
        Check.due("rec's b in its first bind", Check.meaning(graph, 3), "5");
        Check.due("rec's a in its second bind", Check.meaning(graph, 4), "4");
        Check.due("rec's b in its body", Check.meaning(graph, 5), "5");
        Check.referenceIs(graph, 3, 3, 53, -1, 1, 0, 1);
        // par: the binds' EXPs stand outside
        Check.due("par's a in its first bind is the def's", Check.meaning(graph, 6), "0");
        Check.due("par's b in its second bind is nobody's", Check.meaning(graph, 7), "");
        Check.referenceIs(graph, 7, 0, 86, -1, 0, -1, -1);
        Check.due("par's a in its body", Check.meaning(graph, 8), "6");
        Check.due("par's b in its body", Check.meaning(graph, 9), "7");
        // let's scopes are made at the NAMES, with those of their EXPs between
        Check.declarationIs(graph, 8, 5);
        Check.declarationIs(graph, 9, 6);
        Check.declarationIs(graph, 10, 7);
        Check.declarationIs(graph, 11, 8);
        Check.scopeIs(graph, 6, 0, 2);
        Check.scopeIs(graph, 7, 5, 3);
        Check.scopeIs(graph, 8, 5, 2);
        Check.due("c in the second bind's fun", Check.meaning(graph, 11), "8");
        Check.referenceIs(graph, 11, 8, 133, -1, 1, 1, 1);
    }

    private static void longNames() {
        ScopeGraph graph = Check.reading("module A{module B{module C{def x=1;}}} import A.B.C; def y = A.B.C.x + x + A.x;");
        Check.referenceIs(graph, 0, 0, 46, 4, 1, 0, 1);
        Check.referenceIs(graph, 1, 4, 48, 5, 1, 0, 0);
        Check.referenceIs(graph, 2, 5, 50, 0, 1, 0, 0);
        Check.due("C of the import", Check.meaning(graph, 2), "2");
        Check.referenceIs(graph, 6, 8, 67, -1, 1, 0, 0);
        Check.due("A.B.C.x", Check.meaning(graph, 6), "3");
        Check.referenceIs(graph, 7, 0, 71, -1, 1, 0, 0);
        Check.due("x by the import", Check.meaning(graph, 7), "3");
        Check.referenceIs(graph, 9, 9, 77, -1, 0, -1, -1);
        Check.due("a LONG name does not look above", Check.meaning(graph, 9), "");
        Check.due("a module's scope", graph.declaration(1, 2), 2);
        Check.due("a def's scope", graph.declaration(3, 2), ScopeGraph.NONE);
    }

    private static void rings() {
        ScopeGraph graph = Check.reading("module A { import B; def a = b c; } module B { import C; def b = c a; }"
                + " module C { import A; def c = a b; }");
        // a finds b in B, and c behind B in C; each finds the others around the ring
        String[] due = {"2", "3", "5", "4", "5", "1", "0", "1", "3"};
        for (int k = 0; k < due.length; k++) {
            Check.due("ring: reference " + k, Check.meaning(graph, k), due[k]);
        }
        ScopeGraph own = Check.reading("module A { import A; def a = a b; }");
        Check.due("a module that imports itself", Check.meaning(own, 0), "0");
        Check.due("its def", Check.meaning(own, 1), "1");
        Check.due("nothing", Check.meaning(own, 2), "");
        ScopeGraph broken = Check.reading("module A { import A.B; module B { } def x = B; }");
        Check.due("A of A.B is above, as its own import is seen", Check.meaning(broken, 0), "0");
        Check.due("B of A.B", Check.meaning(broken, 1), "1");
    }

    private static void shadows() {
        ScopeGraph graph = Check.reading("module A{def x=1;} module B{import A; def x=2; def y=x; module C{def z=x; import A; def u=x;}} def x=3; def v=x;");
        Check.due("HERE before BY IMPORTS", Check.meaning(graph, 1), "3");
        Check.due("an import before what is ABOVE", Check.meaning(graph, 2), "1");
        Check.due("wherever the import stands", Check.meaning(graph, 4), "1");
        Check.due("the program's own", Check.meaning(graph, 5), "8");
        ScopeGraph chain = Check.reading("module A{def x=1; def y=1;} module B{import A; def x=2;} module C{import B; def p=x y;}");
        Check.due("what a module declares hides what it imports", Check.meaning(chain, 2), "4");
        Check.due("what it does not declare shows through", Check.meaning(chain, 3), "2");
        ScopeGraph above = Check.reading("def x = 1; module A{} def y = A.x; module B{import A; def z=x;}");
        Check.due("imports do not look above", Check.meaning(above, 1), "");
        Check.due("but the scope itself does", Check.meaning(above, 3), "0");
    }

    private static void seenImports() {
        ScopeGraph graph = Check.reading("module A{module A{def a=1;}} module C{import A; import A; def c=a;}");
        Check.due("the first import sees through the second", Check.meaning(graph, 0), "1");
        Check.due("the second through the first", Check.meaning(graph, 1), "1");
        Check.due("so a is found", Check.meaning(graph, 2), "2");
        ScopeGraph one = Check.reading("module A{module A{def a=1;}} module C{import A; def c=a;}");
        Check.due("an import does not see through itself", Check.meaning(one, 0), "0");
        Check.due("so a is not found", Check.meaning(one, 1), "");
        ScopeGraph inner = Check.reading("module A{def x=1; module B{import A; def x=2; def y=A.x;}}");
        Check.due("A from within", Check.meaning(inner, 0), "0");
        Check.due("A.x from within", Check.meaning(inner, 2), "1");
        ScopeGraph passed = Check.reading("module A{import B; module C{import A; def p=q;}} module B{def q=1;}");
        Check.due("behind two imports", Check.meaning(passed, 2), "4");
        Check.referenceIs(passed, 2, 2, 44, -1, 1, 0, 0);
    }

    private static void manyMeant() {
        ScopeGraph graph = Check.reading("module D{def x=1; def x=2;} module D{def x=3; def y=4;} module E{import D; def z=x y;} def w=D.x;");
        Check.referenceIs(graph, 0, 3, 72, 3, 2, 1, 1);
        Check.due("both modules", Check.meaning(graph, 0), "0 3");
        Check.due("all the x", Check.meaning(graph, 1), "1 2 4");
        Check.due("the y", Check.meaning(graph, 2), "5");
        Check.due("D.x", Check.meaning(graph, 4), "1 2 4");
        Check.due("references that mean declaration 2", graph.declaration(2, 4), 2);
        Check.due("references that mean declaration 3", graph.declaration(3, 4), 2);
        Check.due("means nothing", graph.count(4), 0);
        Check.due("means more than one", graph.count(5), 4);
        Check.outside("meant(1, 3)", () -> graph.meant(1, 3));
        Check.outside("meant(1, -1)", () -> graph.meant(1, -1));
        ScopeGraph all = Check.reading("def a=1;".repeat(59) + "def a=a;");
        Check.due("sixty declarations", all.reference(0, 3), 60);
        for (int i = 0; i < 60; i++) {
            Check.due("meant(0, " + i + ")", all.meant(0, i), i);
        }
        Check.outside("meant(0, 60)", () -> all.meant(0, 60));
        Check.outside("meant(0, 64)", () -> all.meant(0, 64));
    }

    private static void nearAndUp() {
        ScopeGraph graph = Check.reading("module A{def x=1;} module B{import A; def f=fun p{fun q{let r=x in {p q x f A B}}};}");
        Check.referenceIs(graph, 1, 4, 62, -1, 1, 2, 0);
        Check.referenceIs(graph, 2, 5, 68, -1, 1, 2, 1);
        Check.referenceIs(graph, 3, 5, 70, -1, 1, 1, 1);
        Check.referenceIs(graph, 4, 5, 72, -1, 1, 3, 0);
        Check.referenceIs(graph, 5, 5, 74, -1, 1, 3, 1);
        Check.referenceIs(graph, 6, 5, 76, -1, 1, 4, 1);
        Check.referenceIs(graph, 7, 5, 78, -1, 1, 4, 1);
        ScopeGraph within = Check.reading("def x=0;module A{def x=1;}def y=fun p{A.x};");
        Check.referenceIs(within, 0, 2, 38, 3, 1, 1, 1);
        Check.referenceIs(within, 1, 3, 40, -1, 1, 0, 0);
        ScopeGraph deep = Check.reading("def a=" + "let x=1 in{".repeat(20) + "a b" + "}".repeat(20) + ";");
        Check.referenceIs(deep, 0, 20, 226, -1, 1, 20, 1);
        Check.referenceIs(deep, 1, 20, 228, -1, 0, -1, -1);
        ScopeGraph deeper = Check.reading("def a=let x0=1" + ",x=a".repeat(58) + " in{a};");
        Check.referenceIs(deeper, 58, 59, 250, -1, 1, 59, 1);
        Check.referenceIs(deeper, 57, 58, 245, -1, 1, 58, 1);
    }

    /** All imports see one another in one scope, so the calculus has very many paths here. */
    private static void manyImportsInRings() {
        String modules = "module A{def a=1;module A{module A{module A{module A{module A{def z=1;}}}}}}";
        ScopeGraph same = Check.reading(modules + "module M{" + "import A;".repeat(6) + "def y=z a;}");
        for (int k = 0; k < 6; k++) {
            Check.due("six imports of one name", Check.meaning(same, k), "6");
        }
        Check.due("z behind all of them", Check.meaning(same, 6), "7");
        Check.due("a behind none of them", Check.meaning(same, 7), "");
        ScopeGraph six = Check.reading("module A{import A;}".repeat(6).replace("A;", "A.A.A.A;") + "def y=A.A.A;");
        Check.due("six modules of one name", six.reference(0, 3), 6);
        Check.due("references that mean nothing", six.count(4) > 0 ? 1 : 0, 1);
    }

    /** Names are the same only if all their bytes are. */
    private static void likeNames() {
        String[] names = {"a", "aa", "aaaaaa", "aaaaaaa", "aaaaaab", "aaaaaaaaaaaa", "aaaaaaaaaaab", "aaaaaabaaaaa", "a_", "A", "a0", "a1"};
        StringBuilder text = new StringBuilder();
        for (String name : names) {
            text.append("def ").append(name).append("=1;");
        }
        text.append("def all=");
        for (String name : names) {
            text.append(name).append(' ');
        }
        ScopeGraph graph = Check.reading(text.append("aaaaaaaaaaac aaa;").toString());
        for (int k = 0; k < names.length; k++) {
            Check.due("the meaning of " + names[k], Check.meaning(graph, k), "" + k);
        }
        Check.due("a name of twelve bytes that nobody has", Check.meaning(graph, names.length), "");
        Check.due("a name of three bytes that nobody has", Check.meaning(graph, names.length + 1), "");
    }

    /** What a scope of one number had in former texts is not in the next one's. */
    private static void readAgain() {
        ScopeGraph graph = new ScopeGraph();
        for (int n = 0; n < 3; n++) {
            Check.type(graph, "module A{def x=1;} module B{import A; def y=x;}");
            graph.read();
            Check.due("x by the import", Check.meaning(graph, 1), "1");
        }
        for (int n = 0; n < 3; n++) {
            Check.type(graph, "module A{def x=1;} module B{def y=x;} module C{import A; def y=x;}");
            graph.read();
            Check.due("x without an import", Check.meaning(graph, 0), "");
            Check.due("x by the import elsewhere", Check.meaning(graph, 2), "1");
        }
        for (int n = 0; n < 3; n++) {
            Check.type(graph, "def A=1; def B=A.x B;");
            graph.read();
            Check.due("A is no module now", Check.meaning(graph, 1), "");
            Check.due("nor is B", graph.declaration(1, 2), ScopeGraph.NONE);
        }
    }

    private static void behindFaults() {
        ScopeGraph graph = Check.reading("module M{def x=M;}");
        Check.type(graph, "module L{} module N{} def a=b c;#");
        graph.read();
        Check.outside("a faulty text's scopes are none", () -> graph.scope(2, 0));
        Check.outside("its declarations are none", () -> graph.declaration(2, 0));
        Check.outside("its references are none", () -> graph.reference(1, 0));
    }
}
