/** Counts and prints the answers that are not due, and feeds texts to objects. */
final class Check {
    private static int wrong = 0;
    private static int checks = 0;

    private Check() {
    }

    /** A call whose answer, or whose exception, is looked at. */
    interface Call {
        long answer();
    }

    static void due(String what, long got, long want) {
        checks++;
        if (got != want) {
            wrong++;
            System.out.println(what + " answered " + got + ", due is " + want);
        }
    }

    static void due(String what, String got, String want) {
        checks++;
        if (!got.equals(want)) {
            wrong++;
            System.out.println(what + " answered " + got + ", due is " + want);
        }
    }

    static void thrown(String what, Class<? extends RuntimeException> want, Call call) {
        checks++;
        String got;
        try {
            got = "the answer " + call.answer();
        } catch (RuntimeException e) {
            if (e.getClass() == want) {
                return;
            }
            got = e.getClass().getName();
        }
        wrong++;
        System.out.println(what + " gave " + got + ", due is " + want.getName());
    }

    static void outside(String what, Call call) {
        thrown(what, IndexOutOfBoundsException.class, call);
    }

    /** The test of one sentence of the document: it is named when it fails, or looks at nothing. */
    static void sentence(String words, Runnable test) {
        int wrongBefore = wrong;
        int checksBefore = checks;
        test.run();
        if (checks == checksBefore) {
            wrong++;
        }
        if (wrong > wrongBefore) {
            System.out.println("^ does not hold: \"" + words + "\"");
        }
    }

    /** Ends the machine with 1 if an answer was wrong, or if hardly anything was asked. */
    static void finish(int least) {
        System.out.println(checks + " answers looked at, " + wrong + " wrong");
        if (wrong > 0 || checks < least) {
            System.exit(1);
        }
    }

    /** Puts a text behind what the tape has; there must be room for its last twenty bytes. */
    static void type(ScopeGraph graph, String text) {
        int before = graph.count(7);
        for (int from = 0; from < text.length(); from += 20) {
            graph.feed(four(text, from), four(text, from + 4), four(text, from + 8),
                    four(text, from + 12), four(text, from + 16));
        }
        graph.end(before + text.length());
    }

    private static int four(String text, int from) {
        int number = 0;
        for (int i = from; i < from + 4; i++) {
            number = number << 8 | (i < text.length() ? text.charAt(i) & 255 : ' ');
        }
        return number;
    }

    static ScopeGraph reading(String text) {
        ScopeGraph graph = new ScopeGraph();
        type(graph, text);
        int scopes = graph.read();
        if (scopes < 0) {
            due("read() of " + text + " with the fault " + graph.fault(), scopes, 1);
        }
        return graph;
    }

    static int renamed(ScopeGraph graph, int k, String name) {
        graph.end(0);
        type(graph, name);
        return graph.rename(k);
    }

    // ---- texts that are right, and texts that are not

    private static String shown(String text) {
        return text.length() > 70 ? text.substring(0, 70) + ".." : text;
    }

    static void right(String text, int scopes, int declarations, int references) {
        ScopeGraph graph = reading(text);
        due("fault() of '" + shown(text) + "'", graph.fault(), 0);
        due("scopes of '" + shown(text) + "'", graph.count(0), scopes);
        due("declarations of '" + shown(text) + "'", graph.count(1), declarations);
        due("references of '" + shown(text) + "'", graph.count(2), references);
    }

    static void faulty(int code, String text, int place) {
        ScopeGraph graph = new ScopeGraph();
        type(graph, text);
        due("read() of '" + shown(text) + "'", graph.read(), -1 - place);
        due("fault() of '" + shown(text) + "'", graph.fault(), code);
        due("the text behind '" + shown(text) + "'", graph.count(6), 0);
        behindFault("behind '" + shown(text) + "'", graph);
    }

    /** The fault is where the text has a '^', which is taken out. */
    static void faulty(int code, String marked) {
        int place = marked.indexOf('^');
        faulty(code, marked.substring(0, place) + marked.substring(place + 1), place);
    }

    /** Nothing of a faulty text is left over in the next one. */
    private static void behindFault(String what, ScopeGraph graph) {
        type(graph, "module M{def x=1;}import M;def y=fun z{x};");
        due(what + ": read()", graph.read(), 3);
        int[] counts = {3, 4, 2, 1, 0, 0, 42, 0};
        for (int k = 0; k < counts.length; k++) {
            due(what + ": count(" + k + ")", graph.count(k), counts[k]);
        }
        scopeIs(graph, 0, -1, 0, 2, 1, 1);
        scopeIs(graph, 1, 0, 1, 1, 0, 0);
        scopeIs(graph, 2, 0, 2, 1, 1, 0);
        due(what + ": M", meaning(graph, 0), "0");
        due(what + ": x", meaning(graph, 1), "1");
    }

    // ---- what an object answers

    static void scopeIs(ScopeGraph graph, int k, int... due) {
        for (int what = 0; what < due.length; what++) {
            due("scope(" + k + ", " + what + ")", graph.scope(k, what), due[what]);
        }
    }

    static void declarationIs(ScopeGraph graph, int k, int... due) {
        for (int what = 0; what < due.length; what++) {
            due("declaration(" + k + ", " + what + ")", graph.declaration(k, what), due[what]);
        }
    }

    static void referenceIs(ScopeGraph graph, int k, int... due) {
        for (int what = 0; what < due.length; what++) {
            due("reference(" + k + ", " + what + ")", graph.reference(k, what), due[what]);
        }
    }

    /** The numbers of the declarations that a reference means, with blanks between. */
    static String meaning(ScopeGraph graph, int k) {
        StringBuilder all = new StringBuilder();
        for (int i = 0; i < graph.reference(k, 3); i++) {
            all.append(i == 0 ? "" : " ").append(graph.meant(k, i));
        }
        return all.toString();
    }

    static void textIs(String what, ScopeGraph graph, String want) {
        int size = graph.count(6);
        due(what + ": bytes of the text", size, want.length());
        for (int i = 0; i < want.length() && i < size; i++) {
            due(what + ": letter(" + i + ")", graph.letter(i), want.charAt(i));
        }
    }

    /** All answers of an object of a small text, but for letters far from both ends of it. */
    static String state(ScopeGraph graph) {
        StringBuilder all = new StringBuilder("fault " + graph.fault() + ", counts");
        int[] counts = new int[8];
        for (int what = 0; what < counts.length; what++) {
            counts[what] = graph.count(what);
            all.append(' ').append(counts[what]);
        }
        for (int k = 0; k < counts[0]; k++) {
            all.append(", scope");
            for (int what = 0; what < 5; what++) {
                all.append(' ').append(graph.scope(k, what));
            }
        }
        for (int k = 0; k < counts[1]; k++) {
            all.append(", declaration");
            for (int what = 0; what < 5; what++) {
                all.append(' ').append(graph.declaration(k, what));
            }
        }
        for (int k = 0; k < counts[2]; k++) {
            all.append(", reference");
            for (int what = 0; what < 6; what++) {
                all.append(' ').append(graph.reference(k, what));
            }
            all.append(" means ").append(meaning(graph, k));
        }
        all.append(", text ");
        for (int i = 0; i < counts[6]; i++) {
            if (i < 40 || i >= counts[6] - 10) {
                all.append((char) graph.letter(i));
            }
        }
        return all.toString();
    }
}
