import java.io.IOException;
import java.nio.file.Files;
import java.nio.file.Path;
import java.util.ArrayList;
import java.util.List;
import java.util.concurrent.Callable;

/**
 * The example of README.md: its calls in its order, whose answers must be those that it tells. Where
 * README.md lies is told by the property "readme"; without that, it is looked for where java runs.
 */
public final class ReadmeTest {
    private static final Due due = new Due();
    private static final List<String> example = readExample();
    private static int made;

    public static void main(String[] args) {
        ChoiceParser x = new ChoiceParser();
        silent("ChoiceParser x = new ChoiceParser();");
        rules(x);
        matches(x);
        refusals(x);
        due.is("lines of the example that were tried", made, example.size());
        due.end();
    }

    private static void rules(ChoiceParser x) {
        for (char c : "A=B(aB)*".toCharArray()) x.type(c);
        silent("for (char c : \"A=B(aB)*\".toCharArray()) x.type(c);");
        call("x.type('z');", () -> x.type('z'));
        call("x.count(1);", () -> x.count(1));
        call("x.rule();", () -> x.rule());
        call("x.check();", () -> x.check());
        for (char c : "B=[b-d".toCharArray()) x.type(c);
        silent("for (char c : \"B=[b-d\".toCharArray()) x.type(c);");
        call("x.rule();", () -> x.rule());
        for (char c : "B=[b-d]".toCharArray()) x.type(c);
        silent("for (char c : \"B=[b-d]\".toCharArray()) x.type(c);");
        call("x.rule();", () -> x.rule());
        call("x.check();", () -> x.check());
        call("x.outcomes(0);", () -> x.outcomes(0));
    }

    private static void matches(ChoiceParser x) {
        for (char c : "bac".toCharArray()) x.feed(c);
        silent("for (char c : \"bac\".toCharArray()) x.feed(c);");
        call("x.match(0, 0);", () -> x.match(0, 0));
        call("x.count(3);", () -> x.count(3));
        call("x.node(2, 0);", () -> x.node(2, 0));
        call("x.node(2, 1);", () -> x.node(2, 1));
        call("x.node(2, 2);", () -> x.node(2, 2));
        call("x.node(2, 3);", () -> x.node(2, 3));
        call("x.memory(1, 0);", () -> x.memory(1, 0));
        call("x.memory(1, 1);", () -> x.memory(1, 1));
        call("x.full();", () -> x.full());
        call("x.count(4);", () -> x.count(4));
        call("x.match(1, 2);", () -> x.match(1, 2));
        call("x.count(4);", () -> x.count(4));
        call("x.match(0, 1);", () -> x.match(0, 1));
    }

    private static void refusals(ChoiceParser x) {
        call("x.feed('z');", () -> x.feed('z'));
        call("x.match(0, 4);", () -> x.match(0, 4));
        call("x.clear();", () -> x.clear());
        call("x.full();", () -> x.full());
        call("x.drop(1);", () -> x.drop(1));
        call("x.match(0, 0);", () -> x.match(0, 0));
        call("x.match(1, 0);", () -> x.match(1, 0));
    }

    /** A line of the example that tells no answer. */
    private static void silent(String code) {
        due.is("line " + made + " of the example", code, next());
    }

    /** A line of the example that tells what the call answers, or what it throws. */
    private static void call(String code, Callable<Object> body) {
        String answer;
        try {
            answer = String.valueOf(body.call());
        } catch (Exception e) {
            answer = "throws " + e.getClass().getSimpleName();
        }
        due.is("line " + made + " of the example", code + " // " + answer, next());
    }

    private static String next() {
        String line = made < example.size() ? example.get(made) : "no such line";
        made++;
        return line;
    }

    /** The lines of code of the first Java block, each with the answer told, without the words on it. */
    private static List<String> readExample() {
        List<String> lines = new ArrayList<>();
        boolean inside = false;
        for (String line : readLines()) {
            if (line.equals("```") && inside) {
                return lines;
            }
            if (inside && !line.isBlank() && !line.startsWith("//")) {
                lines.add(line.replaceFirst("\\s+//\\s+([^:]*).*", " // $1").strip());
            }
            inside |= line.equals("```java");
        }
        return lines;
    }

    private static List<String> readLines() {
        Path path = Path.of(System.getProperty("readme", "README.md"));
        try {
            return Files.readAllLines(path);
        } catch (IOException e) {
            throw new IllegalStateException("no README.md at " + path, e);
        }
    }
}
