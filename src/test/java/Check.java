/** Counts and prints the answers that are not due, and feeds texts to objects. */
final class Check {
    private static int wrong = 0;
    private static int checks = 0;

    private Check() {
    }

    /** A call whose answer, or whose exception, is looked at. */
    interface Call {
        long answer();
    }

    static void due(String what, long got, long want) {
        checks++;
        if (got != want) {
            wrong++;
            System.out.println(what + " answered " + got + ", due is " + want);
        }
    }

    static void thrown(String what, Class<? extends RuntimeException> want, Call call) {
        checks++;
        String got;
        try {
            got = "the answer " + call.answer();
        } catch (RuntimeException e) {
            if (e.getClass() == want) {
                return;
            }
            got = e.getClass().getName();
        }
        wrong++;
        System.out.println(what + " gave " + got + ", due is " + want.getName());
    }

    static void outside(String what, Call call) {
        thrown(what, IndexOutOfBoundsException.class, call);
    }

    /** Ends the machine with 1 if an answer was wrong, or if hardly anything was asked. */
    static void finish(int least) {
        System.out.println(checks + " answers looked at, " + wrong + " wrong");
        if (wrong > 0 || checks < least) {
            System.exit(1);
        }
    }

    /** Puts a text of at most 4000 bytes behind what the tape has, which is a multiple of 20. */
    static void type(ScopeGraph graph, String text) {
        int before = graph.count(7);
        for (int from = 0; from < text.length(); from += 20) {
            graph.feed(four(text, from), four(text, from + 4), four(text, from + 8),
                    four(text, from + 12), four(text, from + 16));
        }
        graph.end(before + text.length());
    }

    private static int four(String text, int from) {
        int number = 0;
        for (int i = from; i < from + 4; i++) {
            number = number << 8 | (i < text.length() ? text.charAt(i) & 255 : ' ');
        }
        return number;
    }

    static ScopeGraph reading(String text) {
        ScopeGraph graph = new ScopeGraph();
        type(graph, text);
        int scopes = graph.read();
        if (scopes < 0) {
            due("read() of " + text + " with the fault " + graph.fault(), scopes, 1);
        }
        return graph;
    }

    static int renamed(ScopeGraph graph, int k, String name) {
        graph.end(0);
        type(graph, name);
        return graph.rename(k);
    }

    static void textIs(String what, ScopeGraph graph, String want) {
        due(what + ": bytes of the text", graph.count(6), want.length());
        for (int i = 0; i < want.length() && i < graph.count(6); i++) {
            due(what + ": letter(" + i + ")", graph.letter(i), want.charAt(i));
        }
    }
}
