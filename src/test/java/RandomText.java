import java.util.Random;

/** Texts that the grammar makes, of few names, so that much is declared twice and imported in rings. */
final class RandomText {
    private final Random random;
    private final StringBuilder text = new StringBuilder();
    private final int names;
    private final int modules;
    private final boolean dense;
    private final String prefix;
    private int left;
    private int imports;

    RandomText(Random random) {
        this.random = random;
        this.names = 1 + random.nextInt(4);
        this.modules = 1 + random.nextInt(3);
        this.dense = random.nextBoolean();
        this.prefix = new String[] {"", "", "_", "abcde", "abcdefghijk"}[random.nextInt(5)];
        this.left = 3 + random.nextInt(random.nextInt(8) == 0 ? 120 : 30);
        this.imports = random.nextInt(7);
    }

    String make() {
        decs(0);
        return text.toString();
    }

    private void put(String piece) {
        if (dense) {
            int size = text.length();
            boolean wordy = size > 0 && Character.isJavaIdentifierPart(text.charAt(size - 1))
                    && Character.isJavaIdentifierPart(piece.charAt(0));
            text.append(wordy ? " " : "").append(piece);
        } else {
            text.append(random.nextInt(9) == 0 ? "\n\t" : "").append(piece).append(' ');
        }
    }

    private String name() {
        return prefix + (char) ('a' + random.nextInt(names));
    }

    private String module() {
        return prefix + (char) ('A' + random.nextInt(modules));
    }

    private void decs(int depth) {
        int n = 1 + random.nextInt(depth == 0 ? 9 : 4);
        for (int i = 0; i < n && left > 0; i++) {
            left--;
            int kind = random.nextInt(10);
            if (kind < 4 && depth < 5) {
                put("module");
                put(random.nextInt(8) == 0 ? name() : module());
                put("{");
                decs(depth + 1);
                put("}");
            } else if (kind < 7 && imports > 0) {
                imports--;
                put("import");
                longName(true);
                put(";");
            } else {
                put("def");
                put(random.nextInt(8) == 0 ? module() : name());
                put("=");
                exp(0);
                put(";");
            }
        }
    }

    private void longName(boolean ofModules) {
        int more = random.nextInt(4) - 1;
        for (int i = 0; i < more; i++) {
            put(module());
            put(".");
        }
        put(ofModules || random.nextInt(6) == 0 ? module() : name());
    }

    private void exp(int depth) {
        int n = 1 + random.nextInt(3);
        for (int i = 0; i < n; i++) {
            if (i > 0 && random.nextBoolean()) {
                put("+");
            }
            atom(depth);
        }
    }

    private void atom(int depth) {
        left--;
        int kind = depth > 4 || left <= 0 ? random.nextInt(5) : random.nextInt(12);
        switch (kind) {
            case 0: put(String.valueOf(random.nextInt(1000))); break;
            case 5:
                put("(");
                exp(depth + 1);
                put(")");
                break;
            case 6:
            case 7:
                put("fun");
                put(name());
                body(depth);
                break;
            case 8: binds("let", depth); break;
            case 9: binds("rec", depth); break;
            case 10: binds("par", depth); break;
            default: longName(false);
        }
    }

    private void binds(String word, int depth) {
        put(word);
        int n = 1 + random.nextInt(3);
        for (int i = 0; i < n; i++) {
            if (i > 0) {
                put(",");
            }
            put(name());
            put("=");
            exp(depth + 1);
        }
        put("in");
        body(depth);
    }

    private void body(int depth) {
        put("{");
        exp(depth + 1);
        put("}");
    }
}
