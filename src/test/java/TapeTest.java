/** Promises 1 to 5: a new object, feed, end, read and fault. */
public final class TapeTest {
    public static void main(String[] args) {
        newObject();
        feedOrder();
        feedLimit();
        ends();
        reads();
        faultsOfBytes();
        faultsOfPlace();
        faultsOfDepth();
        faultsOfNames();
        faultsOfScopes();
        faultsInOrder();
        longestTexts();
        Check.finish(300);
    }

    // ---- promise 1

    private static void newObject() {
        ScopeGraph graph = new ScopeGraph();
        int[] counts = {1, 0, 0, 0, 0, 0, 0, 0};
        for (int what = 0; what < counts.length; what++) {
            Check.due("a new object's count(" + what + ")", graph.count(what), counts[what]);
        }
        int[] scope = {ScopeGraph.NONE, 0, 0, 0, 0};
        for (int what = 0; what < scope.length; what++) {
            Check.due("a new object's scope(0, " + what + ")", graph.scope(0, what), scope[what]);
        }
        Check.due("a new object's fault()", graph.fault(), 0);
        Check.outside("a new object's scope(1, 0)", () -> graph.scope(1, 0));
        Check.outside("a new object's declaration(0, 0)", () -> graph.declaration(0, 0));
        Check.outside("a new object's reference(0, 0)", () -> graph.reference(0, 0));
        Check.outside("a new object's meant(0, 0)", () -> graph.meant(0, 0));
        Check.outside("a new object's friends(0, 0)", () -> graph.friends(0, 0) ? 1 : 0);
        Check.outside("a new object's rename(0)", () -> graph.rename(0));
        Check.outside("a new object's letter(0)", () -> graph.letter(0));
        Check.due("read() of an empty tape", graph.read(), 1);
    }

    // ---- promises 2 and 3

    private static void feedOrder() {
        ScopeGraph graph = new ScopeGraph();
        Check.due("the first feed", graph.feed(0x64656620, 0x6162203D, 0x20313233, 0x20343536, 0x20373839), 20);
        Check.due("the tape", graph.count(7), 20);
        Check.due("the second feed", graph.feed(0x3B090A0D, 0x20202020, 0x20202020, 0x20202020, 0x20202020), 40);
        Check.due("read()", graph.read(), 1);
        Check.textIs("what was fed", graph, "def ab = 123 456 789;\t\n\r                ");
        Check.due("the tape behind read()", graph.count(7), 0);
        graph.feed(0x20202080, 0xFFFFFFFF, 0, 0, 0);
        Check.due("the high bytes of negative numbers", graph.read(), -1 - 3);
        graph.feed(0x20202020, 0xFF202020, 0, 0, 0);
        Check.due("a byte 255", graph.read(), -1 - 4);
    }

    private static void feedLimit() {
        ScopeGraph graph = new ScopeGraph();
        for (int size = 20; size <= 4000; size += 20) {
            Check.due("feed up to " + size, graph.feed(0x20202020, 0x20202020, 0x20202020, 0x20202020, 0x20202020), size);
        }
        Check.thrown("feed over 4000", UnsupportedOperationException.class, () -> graph.feed(0, 0, 0, 0, 0));
        Check.due("the tape behind it", graph.count(7), 4000);
        graph.end(3981);
        Check.thrown("feed to 4001", UnsupportedOperationException.class, () -> graph.feed(0, 0, 0, 0, 0));
        Check.due("the tape behind it", graph.count(7), 3981);
        graph.end(3980);
        Check.due("feed to 4000", graph.feed(0x20202020, 0x20202020, 0x20202020, 0x20202020, 0x20202020), 4000);
        Check.due("read() of 4000 blanks", graph.read(), 1);
        Check.due("bytes of the text", graph.count(6), 4000);
        Check.due("the last letter", graph.letter(3999), 32);
        Check.outside("the letter behind it", () -> graph.letter(4000));
    }

    private static void ends() {
        ScopeGraph graph = new ScopeGraph();
        badEnd(graph, -1);
        badEnd(graph, 1);
        graph.end(0);
        Check.type(graph, "def a = 1;#");
        badEnd(graph, -1);
        badEnd(graph, 12);
        badEnd(graph, Integer.MAX_VALUE);
        badEnd(graph, Integer.MIN_VALUE);
        Check.due("the tape behind wrong ends", graph.count(7), 11);
        graph.end(11);
        Check.due("the tape behind end of all it has", graph.count(7), 11);
        graph.end(10);
        Check.due("feed goes on there", graph.feed(0x64656620, 0x62203D20, 0x323B2020, 0x20202020, 0x20202020), 30);
        graph.read();
        Check.textIs("what was kept, and then fed", graph, "def a = 1;def b = 2;          ");
        graph.end(0);
        Check.due("the text is no part of the tape", graph.count(6), 30);
    }

    private static void badEnd(ScopeGraph graph, int n) {
        Check.thrown("end(" + n + ")", IllegalArgumentException.class, () -> {
            graph.end(n);
            return 0;
        });
    }

    // ---- promise 4

    private static void reads() {
        ScopeGraph graph = new ScopeGraph();
        Check.type(graph, "def a = fun b { b } ;");
        Check.due("read()", graph.read(), 2);
        Check.due("the tape behind it", graph.count(7), 0);
        Check.due("fault() behind it", graph.fault(), 0);
        Check.type(graph, "module M { def x = ; }");
        Check.due("read() of a fault", graph.read(), -1 - 19);
        Check.due("its code", graph.fault(), 2);
        Check.due("the tape behind it", graph.count(7), 0);
        Check.textIs("the text before stays", graph, "def a = fun b { b } ;");
        Check.due("its scopes stay", graph.count(0), 2);
        Check.due("its declarations stay", graph.declaration(1, 1), 12);
        Check.due("its meanings stay", graph.meant(0, 0), 1);
        Check.due("the code is that of the latest read()", graph.fault(), 2);
        Check.due("renaming still goes", Check.renamed(graph, 1, "cc"), 2);
        Check.textIs("the renamed text", graph, "def a = fun cc { cc } ;");
        Check.due("it is no read()", graph.fault(), 2);
        Check.due("read() of the empty tape", graph.read(), 1);
        Check.due("fault()", graph.fault(), 0);
        Check.due("the text is empty", graph.count(6), 0);
        Check.due("it has no declarations", graph.count(1), 0);
    }

    // ---- promise 5

    private static void bad(String text, int code, int place) {
        ScopeGraph graph = new ScopeGraph();
        Check.type(graph, text);
        String shown = text.length() > 70 ? text.substring(0, 70) + ".." : text;
        Check.due("read() of '" + shown + "'", graph.read(), -1 - place);
        Check.due("fault() of '" + shown + "'", graph.fault(), code);
        Check.due("the text behind '" + shown + "'", graph.count(6), 0);
        afterFault("behind '" + shown + "'", graph);
    }

    /** Nothing of a faulty text is left over in the next one. */
    private static void afterFault(String what, ScopeGraph graph) {
        Check.type(graph, "module M{def x=1;}import M;def y=fun z{x};");
        Check.due(what + ": read()", graph.read(), 3);
        int[] counts = {3, 4, 2, 1, 0, 0, 42, 0};
        for (int k = 0; k < counts.length; k++) {
            Check.due(what + ": count(" + k + ")", graph.count(k), counts[k]);
        }
        int[][] scopes = {{-1, 0, 2, 1, 1}, {0, 1, 1, 0, 0}, {0, 2, 1, 1, 0}};
        for (int k = 0; k < scopes.length; k++) {
            for (int i = 0; i < scopes[k].length; i++) {
                Check.due(what + ": scope(" + k + ", " + i + ")", graph.scope(k, i), scopes[k][i]);
            }
        }
        Check.due(what + ": M", graph.meant(0, 0), 0);
        Check.due(what + ": x", graph.meant(1, 0), 1);
    }

    private static void good(String text, int scopes, int declarations, int references) {
        ScopeGraph graph = Check.reading(text);
        String shown = text.length() > 70 ? text.substring(0, 70) + ".." : text;
        Check.due("scopes of '" + shown + "'", graph.count(0), scopes);
        Check.due("declarations of '" + shown + "'", graph.count(1), declarations);
        Check.due("references of '" + shown + "'", graph.count(2), references);
    }

    private static void faultsOfBytes() {
        for (int b = 0; b < 256; b++) {
            char c = (char) b;
            boolean blank = b == 9 || b == 10 || b == 13 || b == 32;
            boolean begins = b < 128 && (Character.isLetterOrDigit(c) || c == '_' || "{}()=+.,;".indexOf(c) >= 0);
            if (blank) {
                good("def" + c + "a" + c + "=" + c + "1;", 1, 1, 0);
            } else {
                bad(" " + c, begins ? 2 : 1, 1);
            }
        }
        good("def abcdefghijkl = 123456789;", 1, 1, 0);
        bad("def abcdefghijklm = 1;", 1, 4);
        bad("def a = 1234567890;", 1, 8);
        bad("  abcdefghijklm", 1, 2);
        bad("1234567890", 1, 0);
        bad("def a = b.abcdefghijklm;", 1, 10);
        bad("def a = 1 modulemodule_;", 1, 10);
        good("def a = 1b 000000000c_9_Z 7_;", 1, 1, 3);
        good("def modules = Module defs + lets ins in1;", 1, 1, 5);
        good("def a=(1)(b)c(d);module M{}import M.M;", 3, 2, 5);
    }

    private static void faultsOfPlace() {
        String[] right = {"module", " A", "{", "import", " B", ".", "C", ";", "}", "def", " a", "=", "1", "+", "b", ".",
            "c", "(", "fun", " x", "{", "y", "}", ")", "let", " d", "=", "2", ",", "e", "=", "3", " in", "{", "4", "}",
            "rec", " f", "=", "5", " in", "{", "6", "}", "par", " g", "=", "7", " in", "{", "8", "}", ";"};
        boolean[] whole = new boolean[right.length + 1];
        whole[0] = true;
        whole[9] = true;
        whole[right.length] = true;
        StringBuilder text = new StringBuilder();
        for (int n = 0; n <= right.length; n++) {
            if (!whole[n]) {
                bad(text.toString(), 2, text.length());
                bad(text + " \n", 2, text.length() + 2);
            }
            if (n < right.length) {
                text.append(right[n]);
            }
        }
        good(text.toString(), 9, 7, 5);
        for (String wrong : new String[] {"a", "1", "in", "fun", "let", "rec", "par", "{", "}", "(", ")", "=", "+", ".", ",", ";"}) {
            bad("def a = 1; " + wrong, 2, 11);
        }
        bad("module { }", 2, 7);
        bad("module let { }", 2, 7);
        bad("module A.B { }", 2, 8);
        bad("module A { } }", 2, 13);
        bad("import A B;", 2, 9);
        bad("import A.;", 2, 9);
        bad("import 1;", 2, 7);
        bad("import A + B;", 2, 9);
        bad("import A, B;", 2, 8);
        bad("import A)", 2, 8);
        bad("def a.b = 1;", 2, 5);
        bad("def a = ;", 2, 8);
        bad("def a = + 1;", 2, 8);
        bad("def a = 1 + ;", 2, 12);
        bad("def a = 1 + + 2;", 2, 12);
        bad("def a = 1.b;", 2, 9);
        bad("def a = b.1;", 2, 10);
        bad("def a = b.let;", 2, 10);
        bad("def a = (b).c;", 2, 11);
        bad("def a = ();", 2, 9);
        bad("def a = (1;", 2, 10);
        bad("def a = (1};", 2, 10);
        bad("def a = 1);", 2, 9);
        bad("def a = 1};", 2, 9);
        bad("def a = 1, b;", 2, 9);
        bad("def a = 1 in { 2 };", 2, 10);
        bad("def a = fun { 1 };", 2, 12);
        bad("def a = fun x 1;", 2, 14);
        bad("def a = fun x { 1 );", 2, 18);
        bad("def a = fun x { 1 , y = 2 };", 2, 18);
        bad("def a = fun x { def b = 1; };", 2, 16);
        bad("def a = fun x { };", 2, 16);
        bad("def a = let in { 1 };", 2, 12);
        bad("def a = let b = 1, in { 1 };", 2, 19);
        bad("def a = let b = 1 { 1 };", 2, 18);
        bad("def a = let b = 1 in 1;", 2, 21);
        bad("def a = let b = 1; in { 1 };", 2, 17);
        bad("def a = let b 1 in { 1 };", 2, 14);
        bad("def a = let b = (1, c = 2) in { 1 };", 2, 18);
        bad("def a = let b = 1 in { 1, c = 2 };", 2, 24);
        bad("def a = let b = 1 in { 1 in { 2 } };", 2, 25);
        bad("def a = rec b = 1 } ;", 2, 18);
        bad("def a = par b = 1 ) ;", 2, 18);
        bad("module A { def a = 1; ", 2, 22);
        bad("def module = 1;", 2, 4);
        bad("def a = import;", 2, 8);
        bad("def a = 1 module", 2, 10);
    }

    private static void faultsOfDepth() {
        good("def a = " + "(".repeat(20) + "1" + ")".repeat(20) + "(2);", 1, 1, 0);
        bad("def a = " + "(".repeat(21) + "1" + ")".repeat(21) + ";", 3, 28);
        good("module M{".repeat(20) + "}".repeat(20) + "module M{}", 22, 21, 0);
        bad("module M{".repeat(21) + "}".repeat(21), 3, 9 * 20 + 8);
        good("module M{".repeat(10) + "def a = " + "(".repeat(8) + "fun x { let y = 1 in { x"
                + "}}" + ")".repeat(8) + ";" + "}".repeat(10), 13, 13, 1);
        bad("module M{".repeat(10) + "def a = " + "(".repeat(9) + "fun x { let y = 1 in { x", 3, 90 + 8 + 9 + 21);
        bad("def a = " + "(".repeat(19) + "fun x { (", 3, 8 + 19 + 8);
        bad("def a = " + "(".repeat(20) + "fun x {", 3, 8 + 20 + 6);
        good("def a = " + "(".repeat(19) + "let x = 1 in { 2 }" + ")".repeat(19) + ";", 2, 2, 0);
        bad("def a = " + "(".repeat(20) + "let x = 1 in { 2 }" + ")".repeat(20) + ";", 3, 8 + 20 + 13);
    }

    private static void faultsOfNames() {
        good("def a=1;".repeat(60), 1, 60, 0);
        bad("def a=1;".repeat(61), 4, 60 * 8 + 4);
        bad("def a=1;".repeat(60) + "module m{}", 4, 60 * 8 + 7);
        bad("def a=1;".repeat(59) + "def a=fun x{1};", 4, 59 * 8 + 10);
        bad("def a=1;".repeat(59) + "def a=let x=1 in{1};", 4, 59 * 8 + 10);
        bad("def a=1;".repeat(59) + "def a=rec x=1 in{1};", 4, 59 * 8 + 10);
        bad("def a=1;".repeat(58) + "def a=par x=1,yy=2 in{1};", 4, 58 * 8 + 14);
        good("def a=1;".repeat(57) + "def a=par x=1,yy=2 in{1};", 2, 60, 0);
        good("def a=" + "x ".repeat(100) + ";", 1, 1, 100);
        bad("def a=" + "x ".repeat(101) + ";", 4, 6 + 200);
        bad("def a=" + "x ".repeat(99) + "y.z.u;", 4, 6 + 198 + 2);
        bad("def a=" + "x ".repeat(100) + ";import b;", 4, 6 + 200 + 8);
        good("import a;".repeat(6), 1, 0, 6);
        bad("import a;".repeat(7), 4, 6 * 9 + 7);
        bad("import a.b;".repeat(7), 4, 6 * 11 + 7);
        bad("import a;".repeat(3) + "module M{" + "import a;".repeat(3) + "module N{import b", 4, 27 + 9 + 27 + 9 + 7);
        bad("import a;".repeat(6) + "import 1;", 2, 6 * 9 + 7);
    }

    /** As many LONG scopes as leave room for this many others, the program's not counted. */
    private static String filledBut(int others) {
        return "import a" + ".a".repeat(63 - others) + ";";
    }

    private static void faultsOfScopes() {
        good(filledBut(0), 64, 0, 64);
        bad("import a" + ".a".repeat(64) + ";", 5, 8 + 127);
        int full = filledBut(0).length();
        good(filledBut(1) + "module m{}", 64, 1, 63);
        bad(filledBut(0) + "module m{}", 5, full + 7);
        good(filledBut(1) + "def d=fun x{1};", 64, 2, 63);
        bad(filledBut(0) + "def d=fun x{1};", 5, full + 6);
        bad(filledBut(0) + "def d=fun;", 5, full + 6);
        good(filledBut(1) + "def d=rec x=1,y=2 in{1};", 64, 3, 63);
        bad(filledBut(0) + "def d=rec x=1,y=2 in{1};", 5, full + 6);
        good(filledBut(1) + "def d=par x=1,y=2 in{1};", 64, 3, 63);
        bad(filledBut(0) + "def d=par x=1,y=2 in{1};", 5, full + 6);
        good(filledBut(2) + "def d=let x=1,y=2 in{1};", 64, 3, 62);
        bad(filledBut(1) + "def d=let x=1,y=2 in{1};", 5, full - 2 + 14);
        bad(filledBut(0) + "def d=let x=1,y=2 in{1};", 5, full + 10);
        bad(filledBut(0) + "def d=let 1", 2, full + 10);
        good("def a=" + "let x=".repeat(59) + "1" + " in{x}".repeat(59) + ";", 60, 60, 59);
        good("def a=" + "rec x=".repeat(59) + "1" + " in{x}".repeat(59) + ";", 60, 60, 59);
        bad("def a=" + "par x=".repeat(60) + "1", 4, 6 + 59 * 6 + 4);
    }

    private static void faultsInOrder() {
        String decls = "def a=1;".repeat(58);
        int size = decls.length() + filledBut(0).length();
        bad(decls + filledBut(0) + "def a=1;def b=let x=1 in{1};", 4, size + 8 + 10);
        bad(decls + filledBut(0) + "def b=let x=1 in{1};", 5, size + 10);
        bad(decls + filledBut(0) + "def a=1;def b=fun x{1};", 5, size + 8 + 6);
        bad(decls + filledBut(0) + "def a=1;def a=1;module m{}", 4, size + 16 + 7);
        String both = "def d=" + "x ".repeat(36) + ";" + filledBut(0);
        bad(both + "import b;", 4, both.length() + 7);
        bad("def d=" + "x ".repeat(36) + ";import a" + ".a".repeat(64) + ";", 4, 6 + 72 + 1 + 8 + 127);
        bad("def a = 1 ) #", 2, 10);
        bad("def a = 1 # )", 1, 10);
        bad("def a = " + "(".repeat(21) + "#", 3, 28);
        bad("def a = # " + "(".repeat(21), 1, 8);
        bad("def a = 1 " + "}".repeat(3) + "(".repeat(30), 2, 10);
        bad("module " + "(".repeat(30), 2, 7);
    }

    private static void longestTexts() {
        String start = "def a = b;";
        good(start + " ".repeat(3990), 1, 1, 1);
        good(" ".repeat(3990) + start, 1, 1, 1);
        bad(" ".repeat(3991) + "def a = b", 2, 4000);
        bad("def a = 1" + " 1".repeat(1995), 2, 3999);
        bad("def a =" + "1".repeat(3993), 1, 7);
        bad("x".repeat(4000), 1, 0);
        good("def a=1" + "+1".repeat(1996) + ";", 1, 1, 0);
    }
}
