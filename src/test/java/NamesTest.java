/** Promises 11 to 13: friends, rename and letter. */
public final class NamesTest {
    public static void main(String[] args) {
        friendships();
        renamings();
        refusals();
        refusedByImports();
        upAndNearBehindIt();
        letters();
        Check.finish(300);
    }

    // ---- promise 11

    private static void friendships() {
        // D.x means the x of both modules D, but not that of Q, which the second one hides
        ScopeGraph graph = Check.reading("module D{def x=1;} module D{def x=2; module Q{def x=3;} import Q;} def w=D.x; def x=4; def u=x;");
        friends(graph, 0, 2, 1);
        friends(graph, 1, 3, 1);
        friends(graph, 1, 5, 0);
        friends(graph, 5, 1, 0);
        friends(graph, 1, 7, 0);
        friends(graph, 7, 7, 1);
        Check.due("friends of declaration 1", graph.declaration(1, 3), 2);
        Check.due("friends of declaration 5", graph.declaration(5, 3), 1);
        ScopeGraph chain = Check.reading("module A{def x=1;} module B{def x=2;} module C{def x=3;}"
                + " module P{import A; import B; def p=x;} module R{import B; import C; def r=x;} def x=4;");
        friends(chain, 1, 3, 1);
        friends(chain, 3, 5, 1);
        friends(chain, 1, 5, 1);
        friends(chain, 5, 1, 1);
        friends(chain, 1, 10, 0);
        Check.due("friends of friends", chain.declaration(1, 3), 3);
        Check.due("from the other end", chain.declaration(5, 3), 3);
        Check.due("references of the first", chain.declaration(1, 4), 1);
        Check.due("references of the middle one", chain.declaration(3, 4), 2);
    }

    private static void friends(ScopeGraph graph, int k, int j, int due) {
        Check.due("friends(" + k + ", " + j + ")", graph.friends(k, j) ? 1 : 0, due);
    }

    // ---- promise 12

    private static void renamed(ScopeGraph graph, int k, String name, int answer, String text) {
        String what = "rename(" + k + ") to '" + name + "'";
        Check.due(what, Check.renamed(graph, k, name), answer);
        Check.due(what + ": the tape behind it", graph.count(7), answer >= 0 ? 0 : name.length());
        Check.textIs(what, graph, text);
    }

    private static void renamings() {
        ScopeGraph graph = Check.reading("module D{def x=1;}module D{def x=2;}def x=D.x+x;");
        renamed(graph, 1, "longer", 3, "module D{def longer=1;}module D{def longer=2;}def x=D.longer+x;");
        Check.due("places move: declaration 3", graph.declaration(3, 1), 31 + 5);
        Check.due("places move: declaration 4", graph.declaration(4, 1), 40 + 10);
        Check.due("places move: reference 1", graph.reference(1, 1), 44 + 10);
        Check.due("places move: reference 2", graph.reference(2, 1), 46 + 15);
        renamed(graph, 0, "_9", 3, "module _9{def longer=1;}module _9{def longer=2;}def x=_9.longer+x;");
        renamed(graph, 3, "y", 3, "module _9{def y=1;}module _9{def y=2;}def x=_9.y+x;");
        Check.due("places move back: reference 2", graph.reference(2, 1), 49);
        renamed(graph, 4, "x", 2, "module _9{def y=1;}module _9{def y=2;}def x=_9.y+x;");
        renamed(graph, 4, "_9", ScopeGraph.REFUSED, "module _9{def y=1;}module _9{def y=2;}def x=_9.y+x;");
        renamed(graph, 4, "y", 2, "module _9{def y=1;}module _9{def y=2;}def y=_9.y+y;");
        renamed(graph, 1, "x", 3, "module _9{def x=1;}module _9{def x=2;}def y=_9.x+y;");
        ScopeGraph whole = Check.reading("def a=1a 2a;");
        renamed(whole, 0, "abcdefghijkl", 3, "def abcdefghijkl=1abcdefghijkl 2abcdefghijkl;");
        renamed(whole, 0, "b", 3, "def b=1b 2b;");
        renamed(whole, 0, "b", 3, "def b=1b 2b;");
        ScopeGraph unused = Check.reading("def a=b;def c=fun a{1};");
        renamed(unused, 2, "zz", 1, "def a=b;def c=fun zz{1};");
        Check.type(unused, "def b=b;");
        Check.due("what is read next", unused.read(), 1);
        Check.textIs("what is read next", unused, "def b=b;");
    }

    private static void refusals() {
        String captured = "def a=1;def f=fun b{a b};";
        ScopeGraph graph = Check.reading(captured);
        renamed(graph, 0, "b", ScopeGraph.REFUSED, captured);
        renamed(graph, 2, "a", ScopeGraph.REFUSED, captured);
        renamed(graph, 0, "f", ScopeGraph.REFUSED, captured);
        renamed(graph, 1, "b", 1, "def a=1;def b=fun b{a b};");
        String free = "def a=1;def c=b;";
        renamed(Check.reading(free), 0, "b", ScopeGraph.REFUSED, free);
        String hidden = "def a=1;def f=fun a{1};def g=a;";
        renamed(Check.reading(hidden), 2, "b", 1, "def a=1;def f=fun b{1};def g=a;");
        String doubled = "def a=1;def a=2;def b=a;";
        ScopeGraph two = Check.reading(doubled);
        renamed(two, 0, "b", ScopeGraph.REFUSED, doubled);
        renamed(two, 0, "c", 3, "def c=1;def c=2;def b=c;");
        String apart = "def a=1;def f=fun b{b};";
        renamed(Check.reading(apart), 2, "a", 2, "def a=1;def f=fun a{a};");
        String refused = "def a=1;def f=fun b{a+b};";
        ScopeGraph stays = Check.reading(refused);
        Check.renamed(stays, 0, "b");
        Check.due("meanings stay", stays.meant(0, 0), 0);
        Check.due("and the others", stays.meant(1, 0), 2);
        Check.due("and the places", stays.reference(1, 1), 22);
        Check.due("the tape stays", stays.count(7), 1);
    }

    private static void refusedByImports() {
        String text = "module A{def x=1;}module B{import A;def y=2;def z=x;}";
        ScopeGraph graph = Check.reading(text);
        renamed(graph, 3, "x", ScopeGraph.REFUSED, text);
        renamed(graph, 1, "y", ScopeGraph.REFUSED, text);
        renamed(graph, 1, "A", 2, "module A{def A=1;}module B{import A;def y=2;def z=A;}");
        ScopeGraph through = Check.reading("module A{module C{def x=1;}}module B{import A;import C;def z=x;}");
        renamed(through, 1, "A", ScopeGraph.REFUSED, "module A{module C{def x=1;}}module B{import A;import C;def z=x;}");
        renamed(through, 1, "D", 2, "module A{module D{def x=1;}}module B{import A;import D;def z=x;}");
        renamed(through, 0, "D", ScopeGraph.REFUSED, "module A{module D{def x=1;}}module B{import A;import D;def z=x;}");
        renamed(through, 0, "x", 2, "module x{module D{def x=1;}}module B{import x;import D;def z=x;}");
    }

    /** Though all mean what they meant, it may be found on another way. */
    private static void upAndNearBehindIt() {
        ScopeGraph graph = Check.reading("module A{def x=1;}module B{import A;def f=fun y{x y};}");
        renamed(graph, 1, "long_x", 2, "module A{def long_x=1;}module B{import A;def f=fun y{long_x y};}");
        Check.due("UP", graph.reference(1, 4), 1);
        Check.due("NEAR", graph.reference(1, 5), 0);
        Check.due("UP of y", graph.reference(2, 4), 0);
        Check.due("NEAR of y", graph.reference(2, 5), 1);
        Check.due("references that mean x", graph.declaration(1, 4), 1);
        Check.due("those that mean nothing", graph.count(4), 0);
    }

    // ---- promise 13

    private static void letters() {
        String text = "def a\t=\r\n1 + b_9;";
        ScopeGraph graph = Check.reading(text);
        Check.textIs("letters", graph, text);
        Check.type(graph, "xyz");
        Check.due("the text is not the tape", graph.letter(0), 'd');
        graph.read();
        Check.textIs("letters behind a fault", graph, text);
    }
}
