import java.util.Random;

/** Random calls with random arguments: nothing is thrown but what the document names, and only where it does. */
public final class AnyCallsTest {
    private static final int OBJECTS = 12_000;
    /** Each of them asks for the counts, too, and 512 are promised in all. */
    private static final int CALLS = 18;
    private static final String[] PIECES = {"module A{", "module B{", "}", "import A;", "import B.A;", "def a=", "def b=", "1", " a", " A.b",
        ";", ";", "(", ")", "+", "fun a{", "let a=", "rec b=", "par a=", ",b=", " in{", "a", "b", "c", "A", "#", " ", "abcdefghijkl"};
    private static final int[] EDGES = {-1, 0, 1, 2, 5, 6, 7, 8, 59, 60, 63, 64, 99, 100, 3999, 4000, 4001, Integer.MIN_VALUE, Integer.MAX_VALUE};

    private static int answers = 0;
    private static int exceptions = 0;

    public static void main(String[] args) {
        for (int seed = 0; seed < OBJECTS; seed++) {
            Random random = new Random(seed);
            ScopeGraph graph = new ScopeGraph();
            for (int n = 0; n < CALLS; n++) {
                one("object " + seed + ", call " + n, graph, random);
            }
        }
        System.out.println(answers + " answers, " + exceptions + " exceptions");
        Check.due("many of both", Math.min(answers, exceptions) > 10_000 ? 1 : 0, 1);
        Check.finish(100_000);
    }

    /** An edge, or a number that is likely to be inside. */
    private static int number(Random random) {
        return random.nextInt(3) == 0 ? EDGES[random.nextInt(EDGES.length)] : random.nextInt(6);
    }

    private static void one(String what, ScopeGraph graph, Random random) {
        int k = number(random);
        int i = number(random);
        int kind = random.nextInt(16);
        String before = counts(graph);
        boolean due = isOutside(graph, kind, k, i);
        Class<?> named = kind == 0 ? UnsupportedOperationException.class
                : kind == 1 ? IllegalArgumentException.class : IndexOutOfBoundsException.class;
        boolean thrown = false;
        try {
            call(graph, kind, k, i, random);
            answers++;
        } catch (RuntimeException e) {
            exceptions++;
            thrown = true;
            Check.due(what + " threw", e.getClass().getName(), named.getName());
            Check.due(what + ": the counts behind it", counts(graph), before);
        }
        Check.due(what + " of kind " + kind + " (" + k + ", " + i + ") throws", thrown ? 1 : 0, due ? 1 : 0);
    }

    private static String counts(ScopeGraph graph) {
        StringBuilder all = new StringBuilder().append(graph.fault());
        for (int what = 0; what < 8; what++) {
            all.append(' ').append(graph.count(what));
        }
        return all.toString();
    }

    private static boolean isOutside(ScopeGraph graph, int kind, int k, int i) {
        switch (kind) {
            case 0: return graph.count(7) > 3980;
            case 1: return not(k, graph.count(7) + 1);
            case 2: return not(k, 8);
            case 3: return not(k, graph.count(0)) || not(i, 5);
            case 4: return not(k, graph.count(1)) || not(i, 5);
            case 5: return not(k, graph.count(2)) || not(i, 6);
            case 6: return not(k, graph.count(2)) || not(i, graph.reference(k, 3));
            case 7: return not(k, graph.count(1)) || not(i, graph.count(1));
            case 8: return not(k, graph.count(1));
            case 9: return not(k, graph.count(6));
            default: return false;
        }
    }

    private static boolean not(int k, int size) {
        return k < 0 || k >= size;
    }

    private static void call(ScopeGraph graph, int kind, int k, int i, Random random) {
        switch (kind) {
            case 0: graph.feed(k, i, 0x20202020, random.nextInt(), 0x61626364); break;
            case 1: graph.end(k); break;
            case 2: graph.count(k); break;
            case 3: graph.scope(k, i); break;
            case 4: graph.declaration(k, i); break;
            case 5: graph.reference(k, i); break;
            case 6: graph.meant(k, i); break;
            case 7: graph.friends(k, i); break;
            case 8: graph.rename(k); break;
            case 9: graph.letter(k); break;
            case 10: graph.read(); break;
            case 11: graph.end(0); break;
            case 12:
                graph.end(0);
                Check.type(graph, PIECES[21 + random.nextInt(7)]);
                break;
            default: typeSome(graph, random);
        }
    }

    private static void typeSome(ScopeGraph graph, Random random) {
        StringBuilder text = new StringBuilder();
        for (int n = random.nextInt(12); n >= 0; n--) {
            text.append(random.nextBoolean() ? "def a=b;" : PIECES[random.nextInt(PIECES.length)]);
        }
        graph.end(0);
        Check.type(graph, random.nextInt(3) == 0 ? new RandomText(random).make() : text.toString());
        if (random.nextBoolean()) {
            graph.read();
        }
    }
}
