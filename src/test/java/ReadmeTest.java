import java.io.IOException;
import java.nio.file.Files;
import java.nio.file.Path;
import java.util.List;

/** The example of README.md answers what is written beside it, and is the one that is tried here. */
public final class ReadmeTest {
    private static final Path README = Path.of("README.md");
    private static final Path SOURCE = Path.of("src/test/java/ReadmeTest.java");

    public static void main(String[] args) throws IOException {
        example();
        isTheExampleOf(Files.readAllLines(README), Files.readString(SOURCE));
        Check.finish(12);
    }

    private static void example() {
        ScopeGraph graph = new ScopeGraph();
        Check.due("the first twenty bytes", graph.feed(0x64656620, 0x61203d20, 0x313b2064, 0x65662062, 0x203d2061), 20);
        Check.due("twenty more", graph.feed(0x3b202020, 0x20202020, 0x20202020, 0x20202020, 0x20202020), 40);
        graph.end(21);
        Check.due("the scopes", graph.read(), 1);
        Check.textIs("the text that was read", graph, "def a = 1; def b = a;");
        Check.due("what the reference means", graph.meant(0, 0), 0);
        graph.feed(0x7a000000, 0, 0, 0, 0);
        graph.end(1);
        Check.due("the places of the new name", graph.rename(0), 2);
        Check.textIs("the text with the new name", graph, "def z = 1; def b = z;");
        graph.feed(0x64656620, 0x63203d20, 0x3b000000, 0, 0);
        graph.end(9);
        Check.due("the fault's place", graph.read(), -9);
        Check.due("the fault's code", graph.fault(), 2);
        Check.textIs("the text behind a fault", graph, "def z = 1; def b = z;");
    }

    /** Each call of the README's Java stands in this file, too. */
    private static void isTheExampleOf(List<String> readme, String source) {
        int from = readme.indexOf("```java");
        Check.due("README.md has an example", from >= 0 ? 1 : 0, 1);
        for (int i = from + 1; i < readme.size() && !readme.get(i).equals("```"); i++) {
            String call = readme.get(i).replaceAll(";.*", "");
            Check.due("'" + call + "' of README.md is tried", source.contains(call) ? 1 : 0, 1);
        }
    }
}
