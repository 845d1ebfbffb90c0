/** Promises 1 to 5: a tape is fed, cut and read, text behind text, with faults between. */
public final class TapeTest {
    public static void main(String[] args) {
        feedOrder();
        ends();
        reads();
        Check.finish(100);
    }

    // ---- promises 2 and 3

    private static void feedOrder() {
        ScopeGraph graph = new ScopeGraph();
        Check.due("the first feed", graph.feed(0x64656620, 0x6162203D, 0x20313233, 0x20343536, 0x20373839), 20);
        Check.due("the tape", graph.count(7), 20);
        Check.due("the second feed", graph.feed(0x3B090A0D, 0x20202020, 0x20202020, 0x20202020, 0x20202020), 40);
        Check.due("read()", graph.read(), 1);
        Check.textIs("what was fed", graph, "def ab = 123 456 789;\t\n\r                ");
        Check.due("the tape behind read()", graph.count(7), 0);
        graph.feed(0x20202080, 0xFFFFFFFF, 0, 0, 0);
        Check.due("the high bytes of negative numbers", graph.read(), -1 - 3);
        graph.feed(0x20202020, 0xFF202020, 0, 0, 0);
        Check.due("a byte 255", graph.read(), -1 - 4);
    }

    private static void ends() {
        ScopeGraph graph = new ScopeGraph();
        Check.type(graph, "def a = 1;#");
        graph.end(10);
        Check.due("feed goes on there", graph.feed(0x64656620, 0x62203D20, 0x323B2020, 0x20202020, 0x20202020), 30);
        graph.read();
        Check.textIs("what was kept, and then fed", graph, "def a = 1;def b = 2;          ");
        graph.end(0);
        Check.due("the text is no part of the tape", graph.count(6), 30);
    }

    // ---- promises 4 and 5

    private static void reads() {
        ScopeGraph graph = new ScopeGraph();
        Check.type(graph, "def a = fun b { b } ;");
        Check.due("read()", graph.read(), 2);
        Check.due("the tape behind it", graph.count(7), 0);
        Check.due("fault() behind it", graph.fault(), 0);
        Check.type(graph, "module M { def x = ; }");
        Check.due("read() of a fault", graph.read(), -1 - 19);
        Check.due("its code", graph.fault(), 2);
        Check.due("the tape behind it", graph.count(7), 0);
        Check.textIs("the text before stays", graph, "def a = fun b { b } ;");
        Check.due("its scopes stay", graph.count(0), 2);
        Check.due("its declarations stay", graph.declaration(1, 1), 12);
        Check.due("its meanings stay", graph.meant(0, 0), 1);
        Check.due("the code is that of the latest read()", graph.fault(), 2);
        Check.due("renaming still goes", Check.renamed(graph, 1, "cc"), 2);
        Check.textIs("the renamed text", graph, "def a = fun cc { cc } ;");
        Check.due("it is no read()", graph.fault(), 2);
        Check.due("read() of the empty tape", graph.read(), 1);
        Check.due("fault()", graph.fault(), 0);
        Check.due("the text is empty", graph.count(6), 0);
        Check.due("it has no declarations", graph.count(1), 0);
    }
}
