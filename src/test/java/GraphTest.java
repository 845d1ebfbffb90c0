/** Promises 6 to 10: count, scope, declaration, reference and meant. */
public final class GraphTest {
    private static final int[] FAR = {-1, Integer.MIN_VALUE, Integer.MAX_VALUE, -2, 1 << 16};

    public static void main(String[] args) {
        counts();
        kindsOfScopes();
        declarationsOfLets();
        longNames();
        rings();
        shadows();
        seenImports();
        manyMeant();
        nearAndUp();
        manyImportsInRings();
        likeNames();
        readAgain();
        outsideArguments();
        Check.finish(400);
    }

    /** The declarations that a reference means, as digits in base 100 with a leading 1. */
    private static long meaning(ScopeGraph graph, int k) {
        long sum = 1;
        for (int i = 0; i < graph.reference(k, 3); i++) {
            sum = sum * 100 + graph.meant(k, i);
        }
        return sum;
    }

    private static void reference(ScopeGraph graph, int k, int... due) {
        for (int what = 0; what < due.length; what++) {
            Check.due("reference(" + k + ", " + what + ")", graph.reference(k, what), due[what]);
        }
    }

    private static void declaration(ScopeGraph graph, int k, int... due) {
        for (int what = 0; what < due.length; what++) {
            Check.due("declaration(" + k + ", " + what + ")", graph.declaration(k, what), due[what]);
        }
    }

    private static void scope(ScopeGraph graph, int k, int... due) {
        for (int what = 0; what < due.length; what++) {
            Check.due("scope(" + k + ", " + what + ")", graph.scope(k, what), due[what]);
        }
    }

    private static void counts() {
        ScopeGraph graph = Check.reading("module M{def x=1;def x=2;} import M; import M.N.O; def y = x q M.x;");
        int[] due = {5, 4, 8, 5, 3, 2, 67, 0};
        for (int what = 0; what < due.length; what++) {
            Check.due("count(" + what + ")", graph.count(what), due[what]);
        }
        Check.type(graph, "abc");
        Check.due("count(7) with a tape", graph.count(7), 3);
        Check.outside("count(8)", () -> graph.count(8));
        for (int far : FAR) {
            Check.outside("count(" + far + ")", () -> graph.count(far));
        }
    }

    private static void kindsOfScopes() {
        ScopeGraph graph = Check.reading("module M { import A.B; def a = fun b { let c = b, d = c in { rec e = d, f = e in {"
                + " par g = f, h = g in { h } } } }; } import M;");
        scope(graph, 0, -1, 0, 1, 1, 1);
        scope(graph, 1, 0, 1, 1, 1, 1);
        scope(graph, 2, -1, 6, 0, 1, 1);
        scope(graph, 3, 1, 2, 1, 1, 0);
        scope(graph, 4, 3, 3, 1, 1, 0);
        scope(graph, 5, 4, 3, 1, 0, 0);
        scope(graph, 6, 5, 4, 2, 4, 0);
        scope(graph, 7, 6, 5, 2, 1, 0);
        Check.due("scopes", graph.count(0), 8);
        Check.outside("scope(8, 0)", () -> graph.scope(8, 0));
    }

    private static void declarationsOfLets() {
        ScopeGraph graph = Check.reading("def a = 0; def r = let a = a, b = a in { a } rec a = b, b = a in { b }"
                + " par a = a, b = b in { a b } let c = fun a { a } , d = fun a { c } in { c d };");
        // let: each bind's EXP is in the scope before its own
        reference(graph, 0, 0, 27, -1, 1, 0, 1);
        Check.due("the first bind's a is the def's", meaning(graph, 0), 100);
        reference(graph, 1, 1, 34, -1, 1, 0, 1);
        Check.due("the second bind's a is the first's", meaning(graph, 1), 102);
        reference(graph, 2, 2, 41, -1, 1, 1, 1);
        Check.due("the body's a too", meaning(graph, 2), 102);
        declaration(graph, 2, 1, 23, -1, 1, 2);
        declaration(graph, 3, 2, 30, -1, 1, 0);
        // rec: all in one scope
        Check.due("rec's b in its first bind", meaning(graph, 3), 105);
        Check.due("rec's a in its second bind", meaning(graph, 4), 104);
        Check.due("rec's b in its body", meaning(graph, 5), 105);
        reference(graph, 3, 3, 53, -1, 1, 0, 1);
        // par: the binds' EXPs stand outside
        Check.due("par's a in its first bind is the def's", meaning(graph, 6), 100);
        Check.due("par's b in its second bind is nobody's", meaning(graph, 7), 1);
        reference(graph, 7, 0, 86, -1, 0, -1, -1);
        Check.due("par's a in its body", meaning(graph, 8), 106);
        Check.due("par's b in its body", meaning(graph, 9), 107);
        // let's scopes are made at the NAMES, with those of their EXPs between
        declaration(graph, 8, 5);
        declaration(graph, 9, 6);
        declaration(graph, 10, 7);
        declaration(graph, 11, 8);
        scope(graph, 6, 0, 2);
        scope(graph, 7, 5, 3);
        scope(graph, 8, 5, 2);
        Check.due("c in the second bind's fun", meaning(graph, 11), 108);
        reference(graph, 11, 8, 133, -1, 1, 1, 1);
    }

    private static void longNames() {
        ScopeGraph graph = Check.reading("module A{module B{module C{def x=1;}}} import A.B.C; def y = A.B.C.x + x + A.x;");
        reference(graph, 0, 0, 46, 4, 1, 0, 1);
        reference(graph, 1, 4, 48, 5, 1, 0, 0);
        reference(graph, 2, 5, 50, 0, 1, 0, 0);
        Check.due("C of the import", meaning(graph, 2), 102);
        reference(graph, 6, 8, 67, -1, 1, 0, 0);
        Check.due("A.B.C.x", meaning(graph, 6), 103);
        reference(graph, 7, 0, 71, -1, 1, 0, 0);
        Check.due("x by the import", meaning(graph, 7), 103);
        reference(graph, 9, 9, 77, -1, 0, -1, -1);
        Check.due("a LONG name does not look above", meaning(graph, 9), 1);
        Check.due("a module's scope", graph.declaration(1, 2), 2);
        Check.due("a def's scope", graph.declaration(3, 2), ScopeGraph.NONE);
    }

    private static void rings() {
        ScopeGraph graph = Check.reading("module A { import B; def a = b c; } module B { import C; def b = c a; }"
                + " module C { import A; def c = a b; }");
        // a finds b in B, and c behind B in C; each finds the others around the ring
        long[] due = {102, 103, 105, 104, 105, 101, 100, 101, 103};
        for (int k = 0; k < due.length; k++) {
            Check.due("ring: reference " + k, meaning(graph, k), due[k]);
        }
        ScopeGraph own = Check.reading("module A { import A; def a = a b; }");
        Check.due("a module that imports itself", meaning(own, 0), 100);
        Check.due("its def", meaning(own, 1), 101);
        Check.due("nothing", meaning(own, 2), 1);
        ScopeGraph broken = Check.reading("module A { import A.B; module B { } def x = B; }");
        Check.due("A of A.B is above, as its own import is seen", meaning(broken, 0), 100);
        Check.due("B of A.B", meaning(broken, 1), 101);
    }

    private static void shadows() {
        ScopeGraph graph = Check.reading("module A{def x=1;} module B{import A; def x=2; def y=x; module C{def z=x; import A; def u=x;}} def x=3; def v=x;");
        Check.due("HERE before BY IMPORTS", meaning(graph, 1), 103);
        Check.due("an import before what is ABOVE", meaning(graph, 2), 101);
        Check.due("wherever the import stands", meaning(graph, 4), 101);
        Check.due("the program's own", meaning(graph, 5), 108);
        ScopeGraph chain = Check.reading("module A{def x=1; def y=1;} module B{import A; def x=2;} module C{import B; def p=x y;}");
        Check.due("what a module declares hides what it imports", meaning(chain, 2), 104);
        Check.due("what it does not declare shows through", meaning(chain, 3), 102);
        ScopeGraph above = Check.reading("def x = 1; module A{} def y = A.x; module B{import A; def z=x;}");
        Check.due("imports do not look above", meaning(above, 1), 1);
        Check.due("but the scope itself does", meaning(above, 3), 100);
    }

    private static void seenImports() {
        ScopeGraph graph = Check.reading("module A{module A{def a=1;}} module C{import A; import A; def c=a;}");
        Check.due("the first import sees through the second", meaning(graph, 0), 101);
        Check.due("the second through the first", meaning(graph, 1), 101);
        Check.due("so a is found", meaning(graph, 2), 102);
        ScopeGraph one = Check.reading("module A{module A{def a=1;}} module C{import A; def c=a;}");
        Check.due("an import does not see through itself", meaning(one, 0), 100);
        Check.due("so a is not found", meaning(one, 1), 1);
        ScopeGraph inner = Check.reading("module A{def x=1; module B{import A; def x=2; def y=A.x;}}");
        Check.due("A from within", meaning(inner, 0), 100);
        Check.due("A.x from within", meaning(inner, 2), 101);
        ScopeGraph passed = Check.reading("module A{import B; module C{import A; def p=q;}} module B{def q=1;}");
        Check.due("behind two imports", meaning(passed, 2), 104);
        reference(passed, 2, 2, 44, -1, 1, 0, 0);
    }

    private static void manyMeant() {
        ScopeGraph graph = Check.reading("module D{def x=1; def x=2;} module D{def x=3; def y=4;} module E{import D; def z=x y;} def w=D.x;");
        reference(graph, 0, 3, 72, 3, 2, 1, 1);
        Check.due("both modules", meaning(graph, 0), 10003);
        Check.due("all the x", meaning(graph, 1), 1010204);
        Check.due("the y", meaning(graph, 2), 105);
        Check.due("D.x", meaning(graph, 4), 1010204);
        Check.due("references that mean declaration 2", graph.declaration(2, 4), 2);
        Check.due("references that mean declaration 3", graph.declaration(3, 4), 2);
        Check.due("means nothing", graph.count(4), 0);
        Check.due("means more than one", graph.count(5), 4);
        Check.outside("meant(1, 3)", () -> graph.meant(1, 3));
        Check.outside("meant(1, -1)", () -> graph.meant(1, -1));
        ScopeGraph all = Check.reading("def a=1;".repeat(59) + "def a=a;");
        Check.due("sixty declarations", all.reference(0, 3), 60);
        for (int i = 0; i < 60; i++) {
            Check.due("meant(0, " + i + ")", all.meant(0, i), i);
        }
        Check.outside("meant(0, 60)", () -> all.meant(0, 60));
        Check.outside("meant(0, 64)", () -> all.meant(0, 64));
    }

    private static void nearAndUp() {
        ScopeGraph graph = Check.reading("module A{def x=1;} module B{import A; def f=fun p{fun q{let r=x in {p q x f A B}}};}");
        reference(graph, 1, 4, 62, -1, 1, 2, 0);
        reference(graph, 2, 5, 68, -1, 1, 2, 1);
        reference(graph, 3, 5, 70, -1, 1, 1, 1);
        reference(graph, 4, 5, 72, -1, 1, 3, 0);
        reference(graph, 5, 5, 74, -1, 1, 3, 1);
        reference(graph, 6, 5, 76, -1, 1, 4, 1);
        reference(graph, 7, 5, 78, -1, 1, 4, 1);
        ScopeGraph within = Check.reading("def x=0;module A{def x=1;}def y=fun p{A.x};");
        reference(within, 0, 2, 38, 3, 1, 1, 1);
        reference(within, 1, 3, 40, -1, 1, 0, 0);
        ScopeGraph deep = Check.reading("def a=" + "let x=1 in{".repeat(20) + "a b" + "}".repeat(20) + ";");
        reference(deep, 0, 20, 226, -1, 1, 20, 1);
        reference(deep, 1, 20, 228, -1, 0, -1, -1);
        ScopeGraph deeper = Check.reading("def a=let x0=1" + ",x=a".repeat(58) + " in{a};");
        reference(deeper, 58, 59, 250, -1, 1, 59, 1);
        reference(deeper, 57, 58, 245, -1, 1, 58, 1);
    }

    /** All imports see one another in one scope, so the calculus has very many paths here. */
    private static void manyImportsInRings() {
        String modules = "module A{def a=1;module A{module A{module A{module A{module A{def z=1;}}}}}}";
        ScopeGraph same = Check.reading(modules + "module M{" + "import A;".repeat(6) + "def y=z a;}");
        for (int k = 0; k < 6; k++) {
            Check.due("six imports of one name", meaning(same, k), 106);
        }
        Check.due("z behind all of them", meaning(same, 6), 107);
        Check.due("a behind none of them", meaning(same, 7), 1);
        ScopeGraph six = Check.reading("module A{import A;}".repeat(6).replace("A;", "A.A.A.A;") + "def y=A.A.A;");
        Check.due("six modules of one name", six.reference(0, 3), 6);
        Check.due("references that mean nothing", six.count(4) > 0 ? 1 : 0, 1);
    }

    /** Names are the same only if all their bytes are. */
    private static void likeNames() {
        String[] names = {"a", "aa", "aaaaaa", "aaaaaaa", "aaaaaab", "aaaaaaaaaaaa", "aaaaaaaaaaab", "aaaaaabaaaaa", "a_", "A", "a0", "a1"};
        StringBuilder text = new StringBuilder();
        for (String name : names) {
            text.append("def ").append(name).append("=1;");
        }
        text.append("def all=");
        for (String name : names) {
            text.append(name).append(' ');
        }
        ScopeGraph graph = Check.reading(text.append("aaaaaaaaaaac aaa;").toString());
        for (int k = 0; k < names.length; k++) {
            Check.due("the meaning of " + names[k], meaning(graph, k), 100 + k);
        }
        Check.due("a name of twelve bytes that nobody has", meaning(graph, names.length), 1);
        Check.due("a name of three bytes that nobody has", meaning(graph, names.length + 1), 1);
    }

    /** What a scope of one number had in former texts is not in the next one's. */
    private static void readAgain() {
        ScopeGraph graph = new ScopeGraph();
        for (int n = 0; n < 3; n++) {
            Check.type(graph, "module A{def x=1;} module B{import A; def y=x;}");
            graph.read();
            Check.due("x by the import", meaning(graph, 1), 101);
        }
        for (int n = 0; n < 3; n++) {
            Check.type(graph, "module A{def x=1;} module B{def y=x;} module C{import A; def y=x;}");
            graph.read();
            Check.due("x without an import", meaning(graph, 0), 1);
            Check.due("x by the import elsewhere", meaning(graph, 2), 101);
        }
        for (int n = 0; n < 3; n++) {
            Check.type(graph, "def A=1; def B=A.x B;");
            graph.read();
            Check.due("A is no module now", meaning(graph, 1), 1);
            Check.due("nor is B", graph.declaration(1, 2), ScopeGraph.NONE);
        }
    }

    private static void outsideArguments() {
        ScopeGraph graph = Check.reading("module M{def x=M;}");
        for (int far : FAR) {
            Check.outside("scope(" + far + ", 0)", () -> graph.scope(far, 0));
            Check.outside("scope(0, " + far + ")", () -> graph.scope(0, far));
            Check.outside("declaration(" + far + ", 0)", () -> graph.declaration(far, 0));
            Check.outside("declaration(0, " + far + ")", () -> graph.declaration(0, far));
            Check.outside("reference(" + far + ", 0)", () -> graph.reference(far, 0));
            Check.outside("reference(0, " + far + ")", () -> graph.reference(0, far));
            Check.outside("meant(" + far + ", 0)", () -> graph.meant(far, 0));
            Check.outside("meant(0, " + far + ")", () -> graph.meant(0, far));
        }
        Check.outside("scope(2, 0)", () -> graph.scope(2, 0));
        Check.outside("scope(0, 5)", () -> graph.scope(0, 5));
        Check.outside("declaration(2, 0)", () -> graph.declaration(2, 0));
        Check.outside("declaration(0, 5)", () -> graph.declaration(0, 5));
        Check.outside("reference(1, 0)", () -> graph.reference(1, 0));
        Check.outside("reference(0, 6)", () -> graph.reference(0, 6));
        Check.outside("meant(1, 0)", () -> graph.meant(1, 0));
        Check.outside("meant(0, 1)", () -> graph.meant(0, 1));
        Check.type(graph, "module L{} module N{} def a=b c;#");
        graph.read();
        Check.outside("a faulty text's scopes are none", () -> graph.scope(2, 0));
        Check.outside("its declarations are none", () -> graph.declaration(2, 0));
        Check.outside("its references are none", () -> graph.reference(1, 0));
    }
}
