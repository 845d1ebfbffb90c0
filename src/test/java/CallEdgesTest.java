/** Promises 1 to 13: each sentence that names a boundary has a test of its own here. */
public final class CallEdgesTest {
    private static final int NONE = ScopeGraph.NONE;
    private static final int[] FAR = {-2, 64, 100, 4000, 1 << 16, Integer.MIN_VALUE, Integer.MAX_VALUE};
    private static final int BLANKS = 0x20202020;

    public static void main(String[] args) {
        tapes();
        readings();
        questions();
        renamings();
        Check.finish(500);
    }

    private static void tapes() {
        Check.sentence("1: An empty tape", CallEdgesTest::emptyTape);
        Check.sentence("1: the text is empty (a program of one scope)", CallEdgesTest::emptyText);
        Check.sentence("2: Twenty bytes more of the tape: how many it has", CallEdgesTest::twentyBytes);
        Check.sentence("2: the highest of each number first", CallEdgesTest::highestFirst);
        Check.sentence("2: they would be more than 4000", CallEdgesTest::moreThanTheTapeHolds);
        Check.sentence("3: The tape keeps its first n bytes", CallEdgesTest::firstBytes);
        Check.sentence("3: n is below 0, or it has not so many", CallEdgesTest::wrongEnds);
    }

    private static void readings() {
        Check.sentence("4: The tape becomes the text: how many scopes it has", CallEdgesTest::scopesOfTexts);
        Check.sentence("4: The tape becomes the text, with nothing of the one before", CallEdgesTest::nothingLeft);
        Check.sentence("4: and is empty then (with a fault, too)", CallEdgesTest::emptyThen);
        Check.sentence("4: -1 less the place of its fault", CallEdgesTest::placeOfFault);
        Check.sentence("4: then the text before stays", CallEdgesTest::textBeforeStays);
        Check.sentence("5: The code of the fault of the latest read()", CallEdgesTest::codeOfTheLatest);
        Check.sentence("5: 0 if it had none, or before one", CallEdgesTest::codeOfNone);
    }

    private static void questions() {
        Check.sentence("6: count's first and last what, and those outside", CallEdgesTest::counts);
        Check.sentence("6: imports (of LONG scopes, too)", CallEdgesTest::importsOfLongs);
        Check.sentence("7: scope's first and last k and what, and those outside", CallEdgesTest::scopes);
        Check.sentence("7: its parent (NONE)", CallEdgesTest::parentNone);
        Check.sentence("8: declaration's first and last k and what, and those outside", CallEdgesTest::declarations);
        Check.sentence("8: the scope that it HAS (NONE)", CallEdgesTest::hasNone);
        Check.sentence("8: how many friends (with itself)", CallEdgesTest::withItself);
        Check.sentence("9: reference's first and last k and what, and those outside", CallEdgesTest::references);
        Check.sentence("9: the scope that imports it (NONE)", CallEdgesTest::importedByNone);
        Check.sentence("9: 4 and 5: NONE if it means nothing", CallEdgesTest::upAndNearNone);
        Check.sentence("10: meant's first and last k and i, and those outside", CallEdgesTest::meant);
        Check.sentence("10: (by numbers, from 0)", CallEdgesTest::byNumbers);
        Check.sentence("11: a declaration and itself, and k and j outside", CallEdgesTest::friends);
        Check.sentence("13: letter's first and last byte, and those outside", CallEdgesTest::letters);
    }

    private static void renamings() {
        Check.sentence("12: at how many places; the tape is empty then", CallEdgesTest::renamedPlaces);
        Check.sentence("12: rename's first and last k, and those outside", CallEdgesTest::renamedOutside);
        Check.sentence("12: NO_NAME: the tape is not just one NAME, without blanks", CallEdgesTest::noName);
        Check.sentence("12: a new name of 12 bytes and one of 13", CallEdgesTest::twelveBytes);
        Check.sentence("12: REFUSED; the tape and all else stay then", CallEdgesTest::refused);
        Check.sentence("12: TOO_LONG: the text would have more than 4000 bytes", CallEdgesTest::tooLong);
        Check.sentence("12: (asked in this order)", CallEdgesTest::inThisOrder);
    }

    // ---- promises 1 to 3

    private static void emptyTape() {
        Check.due("a new object's tape", new ScopeGraph().count(7), 0);
        Check.due("its first feed", new ScopeGraph().feed(0, 0, 0, 0, 0), 20);
        Check.due("its first read()", new ScopeGraph().read(), 1);
        ScopeGraph graph = new ScopeGraph();
        graph.end(0);
        Check.due("the tape behind end(0)", graph.count(7), 0);
        Check.thrown("end(1)", IllegalArgumentException.class, () -> ended(graph, 1));
    }

    private static void emptyText() {
        ScopeGraph graph = new ScopeGraph();
        Check.due("all answers", Check.state(graph), "fault 0, counts 1 0 0 0 0 0 0 0, scope -1 0 0 0 0, text ");
        Check.outside("scope(1, 0)", () -> graph.scope(1, 0));
        Check.outside("declaration(0, 0)", () -> graph.declaration(0, 0));
        Check.outside("reference(0, 0)", () -> graph.reference(0, 0));
        Check.outside("meant(0, 0)", () -> graph.meant(0, 0));
        Check.outside("friends(0, 0)", () -> graph.friends(0, 0) ? 1 : 0);
        Check.outside("rename(0)", () -> graph.rename(0));
        Check.outside("letter(0)", () -> graph.letter(0));
        Check.type(graph, "def a=fun x{x};");
        graph.read();
        graph.read();
        Check.due("all answers behind a read() of an empty tape", Check.state(graph), Check.state(new ScopeGraph()));
    }

    private static int feedBlanks(ScopeGraph graph) {
        return graph.feed(BLANKS, BLANKS, BLANKS, BLANKS, BLANKS);
    }

    private static void twentyBytes() {
        ScopeGraph graph = new ScopeGraph();
        for (int size = 20; size <= 4000; size += 20) {
            Check.due("feed to " + size, feedBlanks(graph), size);
        }
        Check.due("the tape", graph.count(7), 4000);
        ScopeGraph odd = new ScopeGraph();
        feedBlanks(odd);
        odd.end(13);
        Check.due("feed behind 13 bytes", feedBlanks(odd), 33);
        odd.end(0);
        Check.due("feed behind none", feedBlanks(odd), 20);
    }

    private static void highestFirst() {
        ScopeGraph graph = new ScopeGraph();
        graph.feed(0x64656620, 0x61626364, 0x3D31322B, 0x33343B09, 0x0A0D2020);
        graph.read();
        Check.textIs("twenty bytes", graph, "def abcd=12+34;\t\n\r  ");
        // a byte that no token begins with at each of the twenty places, the sign bit's among them
        for (int place = 0; place < 20; place++) {
            int[] numbers = {BLANKS, BLANKS, BLANKS, BLANKS, BLANKS};
            numbers[place / 4] |= 0x80 << (24 - place % 4 * 8);
            ScopeGraph one = new ScopeGraph();
            one.feed(numbers[0], numbers[1], numbers[2], numbers[3], numbers[4]);
            Check.due("a byte 160 at " + place, one.read(), -1 - place);
        }
        ScopeGraph high = new ScopeGraph();
        high.feed(BLANKS, -1, -1, -1, -1);
        Check.due("bytes 255", high.read(), -1 - 4);
        high.feed(BLANKS, BLANKS, 0x20200020, Integer.MIN_VALUE, Integer.MAX_VALUE);
        Check.due("a byte 0", high.read(), -1 - 10);
    }

    private static void moreThanTheTapeHolds() {
        ScopeGraph graph = new ScopeGraph();
        for (int n = 0; n < 200; n++) {
            feedBlanks(graph);
        }
        for (int size : new int[] {4000, 3999, 3981}) {
            graph.end(size);
            Check.thrown("feed behind " + size, UnsupportedOperationException.class, () -> graph.feed(-1, -1, -1, -1, -1));
            Check.due("the tape then", graph.count(7), size);
        }
        graph.end(3980);
        Check.due("feed behind 3980", feedBlanks(graph), 4000);
        Check.due("read()", graph.read(), 1);
        Check.due("bytes of the text", graph.count(6), 4000);
        Check.due("feed behind it", feedBlanks(graph), 20);
    }

    private static int ended(ScopeGraph graph, int n) {
        graph.end(n);
        return 0;
    }

    private static void firstBytes() {
        ScopeGraph graph = new ScopeGraph();
        Check.type(graph, "def abc=1;#");
        graph.end(11);
        Check.due("end of all it has", graph.count(7), 11);
        graph.end(10);
        Check.due("end of one less", graph.count(7), 10);
        graph.read();
        Check.textIs("what was kept", graph, "def abc=1;");
        Check.type(graph, "def x=1;def y=2;");
        graph.end(8);
        Check.type(graph, "def z=3;");
        graph.read();
        Check.textIs("what was kept, and fed then", graph, "def x=1;def z=3;");
        feedBlanks(graph);
        graph.end(0);
        Check.due("end(0)", graph.count(7), 0);
        Check.due("the text stays", graph.count(6), 16);
    }

    private static void wrongEnds() {
        ScopeGraph graph = new ScopeGraph();
        feedBlanks(graph);
        for (int n : new int[] {-1, 21, 4000, 4001, Integer.MIN_VALUE, Integer.MAX_VALUE}) {
            Check.thrown("end(" + n + ")", IllegalArgumentException.class, () -> ended(graph, n));
            Check.due("the tape then", graph.count(7), 20);
        }
        graph.end(5);
        Check.thrown("what was cut off is no more there", IllegalArgumentException.class, () -> ended(graph, 6));
        graph.read();
        Check.thrown("nor what was read", IllegalArgumentException.class, () -> ended(graph, 1));
    }

    // ---- promises 4 and 5

    private static int read(ScopeGraph graph, String text) {
        Check.type(graph, text);
        return graph.read();
    }

    private static void scopesOfTexts() {
        ScopeGraph graph = new ScopeGraph();
        Check.due("the empty text", graph.read(), 1);
        Check.due("a text of one scope", read(graph, "def a=1;"), 1);
        Check.due("a text of two", read(graph, "def a=fun x{1};"), 2);
        Check.due("a text of sixty-four", read(graph, "def d=a" + ".a".repeat(63) + ";"), 64);
        Check.due("a text of one again", read(graph, "def a=1;"), 1);
        Check.due("the empty text again", graph.read(), 1);
        Check.due("bytes of the text", graph.count(6), 0);
    }

    private static void nothingLeft() {
        ScopeGraph graph = Check.reading("module A{import A;}def a=1;def a=a a a a;def b=fun c{a.b.c};");
        Check.due("renaming in the longer text", Check.renamed(graph, 1, "d"), 7);
        read(graph, "def a=b;def c=1;");
        Check.due("all answers", Check.state(graph), Check.state(Check.reading("def a=b;def c=1;")));
        Check.due("renaming in the shorter text", Check.renamed(graph, 0, "d"), 1);
        Check.due("all answers", Check.state(graph), Check.state(Check.reading("def d=b;def c=1;")));
        Check.due("friends(0, 1)", graph.friends(0, 1) ? 1 : 0, 0);
        read(graph, "module A{}module B{def a=c;}import A;");
        Check.due("all answers", Check.state(graph), Check.state(Check.reading("module A{}module B{def a=c;}import A;")));
        ScopeGraph other = Check.reading("def a=a a a;");
        read(other, "def a=a;");
        Check.due("renaming in the shorter text alone", Check.renamed(other, 0, "d"), 2);
    }

    private static void emptyThen() {
        ScopeGraph graph = new ScopeGraph();
        read(graph, "def a=1;");
        Check.due("the tape behind a text", graph.count(7), 0);
        String[] faulty = {"#", "def", "def d=" + "(".repeat(21), "def d=1;".repeat(61), "def d=a" + ".a".repeat(64)};
        for (int code = 1; code <= 5; code++) {
            read(graph, faulty[code - 1]);
            Check.due("fault()", graph.fault(), code);
            Check.due("the tape behind a fault " + code, graph.count(7), 0);
            Check.due("feed then", feedBlanks(graph), 20);
            graph.end(0);
        }
        graph.read();
        Check.due("the tape behind an empty one", graph.count(7), 0);
    }

    private static void placeOfFault() {
        ScopeGraph graph = new ScopeGraph();
        Check.due("a fault at place 0", read(graph, "#"), -1);
        Check.due("a fault at place 1", read(graph, " #"), -2);
        Check.due("a fault at the tape's length", read(graph, "def"), -4);
        Check.due("a fault at place 3999", read(graph, " ".repeat(3999) + "#"), -4000);
        ScopeGraph full = new ScopeGraph();
        Check.due("a fault at place 4000", read(full, " ".repeat(3997) + "def"), -4001);
    }

    private static void textBeforeStays() {
        ScopeGraph graph = Check.reading("module A{def x=1;}import A;def b=fun c{x c y};");
        String before = Check.state(graph).substring("fault 0".length());
        String[] faulty = {"#", "module B{}module C{}def x=", "def d=" + "(".repeat(21), "def d=x;".repeat(61), "import a" + ".a".repeat(64)};
        for (int code = 1; code <= 3; code += 2) {
            read(graph, faulty[code - 1]);
            Check.due("all answers but fault()", Check.state(graph), "fault " + code + before);
        }
        for (int code = 2; code <= 5; code++) {
            ScopeGraph other = Check.reading("module A{def x=1;}import A;def b=fun c{x c y};");
            read(other, faulty[code - 1]);
            Check.due("all answers but fault()", Check.state(other), "fault " + code + before);
            Check.due("renaming goes on in it", Check.renamed(other, 1, "yy"), 2);
            Check.textIs("what it made", other, "module A{def yy=1;}import A;def b=fun c{yy c y};");
        }
    }

    private static void codeOfTheLatest() {
        ScopeGraph graph = new ScopeGraph();
        String[] faulty = {"#", "def", "def d=" + "(".repeat(21), "import a;".repeat(7), "def d=a" + ".a".repeat(64)};
        for (int code = 5; code >= 1; code--) {
            read(graph, faulty[code - 1]);
            Check.due("fault()", graph.fault(), code);
            Check.due("fault() once more", graph.fault(), code);
        }
        read(graph, "def a=a;");
        read(graph, "(");
        Check.due("renaming", Check.renamed(graph, 0, "b"), 2);
        Check.due("is no read()", graph.fault(), 2);
        Check.type(graph, "def a=1;");
        Check.due("feed and end are none", graph.fault(), 2);
    }

    private static void codeOfNone() {
        ScopeGraph graph = new ScopeGraph();
        Check.due("before a read()", graph.fault(), 0);
        Check.type(graph, "#");
        Check.due("before a read(), with a tape", graph.fault(), 0);
        graph.read();
        Check.due("behind a fault", graph.fault(), 1);
        graph.read();
        Check.due("behind a text without one", graph.fault(), 0);
    }

    // ---- promises 6 to 10

    private static void counts() {
        ScopeGraph graph = Check.reading("def a=1;def a=2;def b=a c;");
        Check.type(graph, "abc");
        int[] due = {1, 3, 2, 0, 1, 1, 26, 3};
        for (int what = 0; what < due.length; what++) {
            Check.due("count(" + what + ")", graph.count(what), due[what]);
        }
        Check.outside("count(-1)", () -> graph.count(-1));
        Check.outside("count(8)", () -> graph.count(8));
        for (int far : FAR) {
            Check.outside("count(" + far + ")", () -> graph.count(far));
        }
    }

    private static void importsOfLongs() {
        Check.due("of none", Check.reading("def a=b;").count(3), 0);
        Check.due("of an import", Check.reading("import A;").count(3), 1);
        Check.due("of a LONG", Check.reading("def a=b.c.d;").count(3), 2);
        Check.due("of an import of a LONG", Check.reading("import b.c.d;").count(3), 3);
        Check.due("of as many as may be", Check.reading("import a;".repeat(6) + "def d=a" + ".a".repeat(63) + ";").count(3), 69);
    }

    private static void scopes() {
        ScopeGraph graph = Check.reading("module M{def x=1;import M.N;}def a=b c;");
        Check.scopeIs(graph, 0, NONE, 0, 2, 2, 0);
        Check.scopeIs(graph, 1, 0, 1, 1, 1, 1);
        Check.scopeIs(graph, 2, NONE, 6, 0, 1, 1);
        for (int k : new int[] {0, 1, 2}) {
            Check.outside("scope(" + k + ", -1)", () -> graph.scope(k, -1));
            Check.outside("scope(" + k + ", 5)", () -> graph.scope(k, 5));
        }
        for (int what = 0; what < 5; what++) {
            int one = what;
            Check.outside("scope(-1, " + what + ")", () -> graph.scope(-1, one));
            Check.outside("scope(3, " + what + ")", () -> graph.scope(3, one));
        }
        for (int far : FAR) {
            Check.outside("scope(" + far + ", 0)", () -> graph.scope(far, 0));
            Check.outside("scope(0, " + far + ")", () -> graph.scope(0, far));
        }
        ScopeGraph full = Check.reading("def d=a" + ".a".repeat(63) + ";");
        Check.scopeIs(full, 63, NONE, 6, 0, 1, 1);
        Check.outside("scope(64, 0)", () -> full.scope(64, 0));
    }

    private static void parentNone() {
        ScopeGraph graph = Check.reading("def a=fun x{b.c};");
        Check.due("of the program's", graph.scope(0, 0), NONE);
        Check.due("of fun's", graph.scope(1, 0), 0);
        Check.due("of a LONG one", graph.scope(2, 0), NONE);
    }

    private static void declarations() {
        ScopeGraph graph = Check.reading("module M{def x=1;}def a=M.x;");
        Check.declarationIs(graph, 0, 0, 7, 1, 1, 1);
        Check.declarationIs(graph, 1, 1, 13, NONE, 1, 1);
        Check.declarationIs(graph, 2, 0, 22, NONE, 1, 0);
        for (int k : new int[] {0, 2}) {
            Check.outside("declaration(" + k + ", -1)", () -> graph.declaration(k, -1));
            Check.outside("declaration(" + k + ", 5)", () -> graph.declaration(k, 5));
        }
        for (int what = 0; what < 5; what++) {
            int one = what;
            Check.outside("declaration(-1, " + what + ")", () -> graph.declaration(-1, one));
            Check.outside("declaration(3, " + what + ")", () -> graph.declaration(3, one));
        }
        for (int far : FAR) {
            Check.outside("declaration(" + far + ", 0)", () -> graph.declaration(far, 0));
            Check.outside("declaration(0, " + far + ")", () -> graph.declaration(0, far));
        }
        ScopeGraph full = Check.reading("def a=1;".repeat(60));
        Check.declarationIs(full, 59, 0, 59 * 8 + 4, NONE, 1, 0);
        Check.outside("declaration(60, 0)", () -> full.declaration(60, 0));
    }

    private static void hasNone() {
        ScopeGraph graph = Check.reading("def a=fun b{let c=1 in{rec d=2 in{par e=3 in{4}}}};module f{}");
        for (int k = 0; k < 5; k++) {
            Check.due("what declaration " + k + " has", graph.declaration(k, 2), NONE);
        }
        Check.due("what a module has", graph.declaration(5, 2), 5);
    }

    private static void withItself() {
        ScopeGraph graph = Check.reading("def a=1;def b=1;def b=b;");
        Check.due("friends of one that nobody means", graph.declaration(0, 3), 1);
        Check.due("friends of one with another", graph.declaration(1, 3), 2);
        Check.due("friends of the other", graph.declaration(2, 3), 2);
    }

    private static void references() {
        ScopeGraph graph = Check.reading("module M{def x=1;}import M;def a=fun y{x z};");
        Check.referenceIs(graph, 0, 0, 25, 0, 1, 0, 1);
        Check.referenceIs(graph, 1, 2, 39, NONE, 1, 1, 0);
        Check.referenceIs(graph, 2, 2, 41, NONE, 0, NONE, NONE);
        for (int k : new int[] {0, 2}) {
            Check.outside("reference(" + k + ", -1)", () -> graph.reference(k, -1));
            Check.outside("reference(" + k + ", 6)", () -> graph.reference(k, 6));
        }
        for (int what = 0; what < 6; what++) {
            int one = what;
            Check.outside("reference(-1, " + what + ")", () -> graph.reference(-1, one));
            Check.outside("reference(3, " + what + ")", () -> graph.reference(3, one));
        }
        for (int far : FAR) {
            Check.outside("reference(" + far + ", 0)", () -> graph.reference(far, 0));
            Check.outside("reference(0, " + far + ")", () -> graph.reference(0, far));
        }
        ScopeGraph full = Check.reading("def a=" + "a ".repeat(100) + ";");
        Check.referenceIs(full, 99, 0, 6 + 99 * 2, NONE, 1, 0, 1);
        Check.outside("reference(100, 0)", () -> full.reference(100, 0));
    }

    private static void importedByNone() {
        ScopeGraph graph = Check.reading("import a.b;def c=d.e f;");
        int[] importers = {1, 0, 2, NONE, NONE};
        for (int k = 0; k < importers.length; k++) {
            Check.due("what imports reference " + k, graph.reference(k, 2), importers[k]);
        }
    }

    private static void upAndNearNone() {
        ScopeGraph graph = Check.reading("def a=fun b{c.d a};");
        Check.referenceIs(graph, 0, 1, 12, 2, 0, NONE, NONE);
        Check.referenceIs(graph, 1, 2, 14, NONE, 0, NONE, NONE);
        Check.referenceIs(graph, 2, 1, 16, NONE, 1, 1, 1);
    }

    private static void meant() {
        ScopeGraph graph = Check.reading("def a=1;def a=2;def a=3;def b=a b c;");
        Check.due("the first", graph.meant(0, 0), 0);
        Check.due("the last", graph.meant(0, 2), 2);
        Check.outside("meant(0, -1)", () -> graph.meant(0, -1));
        Check.outside("meant(0, 3)", () -> graph.meant(0, 3));
        Check.due("the only one", graph.meant(1, 0), 3);
        Check.outside("meant(1, 1)", () -> graph.meant(1, 1));
        Check.outside("meant(2, 0) of one that means nothing", () -> graph.meant(2, 0));
        Check.outside("meant(2, -1)", () -> graph.meant(2, -1));
        Check.outside("meant(-1, 0)", () -> graph.meant(-1, 0));
        Check.outside("meant(3, 0)", () -> graph.meant(3, 0));
        for (int far : FAR) {
            Check.outside("meant(" + far + ", 0)", () -> graph.meant(far, 0));
            Check.outside("meant(0, " + far + ")", () -> graph.meant(0, far));
        }
        ScopeGraph full = Check.reading("def a=" + "a ".repeat(100) + ";" + "def a=1;".repeat(59));
        Check.due("the last of sixty", full.meant(99, 59), 59);
        Check.outside("meant(99, 60)", () -> full.meant(99, 60));
        Check.outside("meant(99, 64)", () -> full.meant(99, 64));
        Check.outside("meant(100, 0)", () -> full.meant(100, 0));
    }

    /** They are found in another order: by the import that is written first, the later module. */
    private static void byNumbers() {
        ScopeGraph graph = Check.reading("module A{def x=1;}module B{def x=2;}module C{import B;import A;def c=x;}");
        Check.due("the first", graph.meant(2, 0), 1);
        Check.due("the second", graph.meant(2, 1), 3);
    }

    // ---- promises 11 to 13

    private static void friends() {
        ScopeGraph graph = Check.reading("def a=1;def a=a;def b=2;");
        int[][] due = {{1, 1, 0}, {1, 1, 0}, {0, 0, 1}};
        for (int k = 0; k < 3; k++) {
            for (int j = 0; j < 3; j++) {
                Check.due("friends(" + k + ", " + j + ")", graph.friends(k, j) ? 1 : 0, due[k][j]);
            }
            int one = k;
            for (int out : new int[] {-1, 3, 59, 60, 63}) {
                Check.outside("friends(" + k + ", " + out + ")", () -> graph.friends(one, out) ? 1 : 0);
                Check.outside("friends(" + out + ", " + k + ")", () -> graph.friends(out, one) ? 1 : 0);
            }
        }
        for (int far : FAR) {
            Check.outside("friends(" + far + ", 0)", () -> graph.friends(far, 0) ? 1 : 0);
            Check.outside("friends(0, " + far + ")", () -> graph.friends(0, far) ? 1 : 0);
            Check.outside("friends of both outside", () -> graph.friends(far, far) ? 1 : 0);
        }
        ScopeGraph full = Check.reading("def a=1;".repeat(60));
        Check.due("the last and itself", full.friends(59, 59) ? 1 : 0, 1);
        Check.due("the last and the first", full.friends(59, 0) ? 1 : 0, 0);
        Check.outside("friends(60, 60)", () -> full.friends(60, 60) ? 1 : 0);
    }

    private static void letters() {
        ScopeGraph graph = Check.reading("module M{}");
        Check.due("the first byte", graph.letter(0), 'm');
        Check.due("the last byte", graph.letter(9), '}');
        Check.outside("letter(-1)", () -> graph.letter(-1));
        Check.outside("letter(10)", () -> graph.letter(10));
        for (int far : FAR) {
            Check.outside("letter(" + far + ")", () -> graph.letter(far));
        }
        Check.type(graph, "more than ten bytes on the tape");
        Check.outside("a letter of the tape", () -> graph.letter(10));
        ScopeGraph full = Check.reading("\t".repeat(3999) + "\n");
        Check.due("the first of 4000", full.letter(0), 9);
        Check.due("the last of 4000", full.letter(3999), 10);
        Check.outside("letter(4000)", () -> full.letter(4000));
        full.read();
        Check.outside("a letter of the empty text", () -> full.letter(0));
        ScopeGraph shorter = Check.reading("def abc=abc;");
        Check.renamed(shorter, 0, "a");
        Check.due("the last behind a renaming", shorter.letter(7), ';');
        Check.outside("the one behind it", () -> shorter.letter(8));
    }

    private static void renamedPlaces() {
        ScopeGraph graph = Check.reading("def a=b;def c=c c;");
        Check.due("at one place", Check.renamed(graph, 0, "x"), 1);
        Check.due("the tape then", graph.count(7), 0);
        Check.due("at three places", Check.renamed(graph, 1, "yy"), 3);
        Check.due("the tape then", graph.count(7), 0);
        Check.textIs("the text", graph, "def x=b;def yy=yy yy;");
        Check.due("feed then", feedBlanks(graph), 20);
        Check.due("the text stays", graph.count(6), 21);
        graph.read();
        Check.textIs("the next text", graph, " ".repeat(20));
    }

    private static void renamedOutside() {
        ScopeGraph graph = Check.reading("def a=1;def b=2;");
        Check.type(graph, "c");
        for (int k : new int[] {-1, 2, 59, 60, 63, 64, Integer.MIN_VALUE, Integer.MAX_VALUE}) {
            Check.outside("rename(" + k + ")", () -> graph.rename(k));
        }
        Check.due("the tape stays", graph.count(7), 1);
        Check.due("the first", graph.rename(0), 1);
        Check.type(graph, "d");
        Check.due("the last", graph.rename(1), 1);
        Check.textIs("the text", graph, "def c=1;def d=2;");
        ScopeGraph full = Check.reading("def a=1;".repeat(60));
        Check.due("the last of sixty", Check.renamed(full, 59, "b"), 1);
        Check.due("its letter", full.letter(59 * 8 + 4), 'b');
        Check.due("the letter before", full.letter(58 * 8 + 4), 'a');
        Check.type(full, "b");
        Check.outside("rename(60)", () -> full.rename(60));
    }

    private static void noName() {
        String[] none = {"", " ", "a ", " a", "\ta", "a\n", "a b", "1", "1a", "9_", "a.b", "a;", "=", "module", "import", "def", "fun",
            "let", "rec", "par", "in", "\u0000", "a\u0000", "\u00e4", "a-b", "123456789", "#", "a#"};
        for (String name : none) {
            ScopeGraph graph = Check.reading("def a=b;");
            Check.type(graph, name);
            String before = Check.state(graph);
            Check.due("rename(0) to '" + name + "'", graph.rename(0), ScopeGraph.NO_NAME);
            Check.due("all answers then", Check.state(graph), before);
        }
        String[] right = {"a", "_", "__1", "Z9", "Module", "modul", "modules", "i", "inn", "IN", "_in"};
        for (String name : right) {
            Check.due("rename(0) to " + name, Check.renamed(Check.reading("def a=b;"), 0, name), 1);
        }
    }

    private static void twelveBytes() {
        ScopeGraph graph = Check.reading("def a=a;");
        Check.due("twelve bytes", Check.renamed(graph, 0, "abcdefghijkl"), 2);
        Check.textIs("the text", graph, "def abcdefghijkl=abcdefghijkl;");
        Check.due("thirteen bytes", Check.renamed(graph, 0, "abcdefghijklm"), ScopeGraph.NO_NAME);
        Check.due("the tape stays", graph.count(7), 13);
        graph.end(12);
        Check.due("twelve of them", graph.rename(0), 2);
        Check.due("from twelve to one", Check.renamed(graph, 0, "_"), 2);
        Check.textIs("the text", graph, "def _=_;");
        Check.type(graph, "a".repeat(4000));
        Check.due("as many as the tape holds", graph.rename(0), ScopeGraph.NO_NAME);
        Check.due("the tape stays", graph.count(7), 4000);
    }

    private static void refused() {
        ScopeGraph graph = Check.reading("def a=1;def f=fun bcd{a bcd};");
        Check.type(graph, "bcd");
        String before = Check.state(graph);
        Check.due("rename(0)", graph.rename(0), ScopeGraph.REFUSED);
        Check.due("all answers then", Check.state(graph), before);
        Check.due("rename(0) once more", graph.rename(0), ScopeGraph.REFUSED);
        Check.due("the tape is the name still", graph.rename(1), 1);
        Check.textIs("the text", graph, "def a=1;def bcd=fun bcd{a bcd};");
    }

    private static void tooLong() {
        ScopeGraph graph = Check.reading("def a=a a;" + " ".repeat(3984));
        Check.due("to 4000 bytes", Check.renamed(graph, 0, "abc"), 3);
        Check.due("bytes", graph.count(6), 4000);
        Check.due("the last reference", graph.reference(1, 1), 12);
        Check.due("as many again", Check.renamed(graph, 0, "xyz"), 3);
        Check.type(graph, "wxyz");
        String before = Check.state(graph);
        Check.due("more", graph.rename(0), ScopeGraph.TOO_LONG);
        Check.due("all answers then", Check.state(graph), before);
        graph.end(3);
        Check.due("the tape stays", graph.rename(0), 3);
        Check.due("its first letter", graph.letter(4), 'w');
        ScopeGraph one = Check.reading("def a=1;" + " ".repeat(3992));
        Check.due("to 4001 bytes", Check.renamed(one, 0, "bb"), ScopeGraph.TOO_LONG);
        Check.due("the text stays", one.count(6), 4000);
        Check.due("to 4000 bytes", Check.renamed(one, 0, "b"), 1);
        ScopeGraph less = Check.reading("def a=1;" + " ".repeat(3991));
        Check.due("from 3999 to 4000", Check.renamed(less, 0, "bb"), 1);
        Check.due("bytes", less.count(6), 4000);
        Check.due("to 4001", Check.renamed(less, 0, "bbb"), ScopeGraph.TOO_LONG);
        Check.due("back to 3999", Check.renamed(less, 0, "c"), 1);
        Check.due("bytes", less.count(6), 3999);
    }

    private static void inThisOrder() {
        ScopeGraph graph = Check.reading("def a=a bb;" + " ".repeat(3989));
        Check.due("NO_NAME before TOO_LONG", Check.renamed(graph, 0, "bb "), ScopeGraph.NO_NAME);
        Check.due("REFUSED before TOO_LONG", Check.renamed(graph, 0, "bb"), ScopeGraph.REFUSED);
        Check.due("TOO_LONG alone", Check.renamed(graph, 0, "cc"), ScopeGraph.TOO_LONG);
        Check.due("none of them", Check.renamed(graph, 0, "c"), 2);
        ScopeGraph small = Check.reading("def a=a bb;");
        Check.due("NO_NAME before REFUSED", Check.renamed(small, 0, "bb "), ScopeGraph.NO_NAME);
        Check.due("REFUSED alone", Check.renamed(small, 0, "bb"), ScopeGraph.REFUSED);
        small.end(0);
        Check.outside("no such declaration before NO_NAME", () -> small.rename(1));
    }
}
