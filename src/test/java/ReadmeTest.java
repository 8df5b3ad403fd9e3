import java.io.IOException;
import java.io.UncheckedIOException;
import java.nio.file.Files;
import java.nio.file.Path;
import java.util.ArrayList;
import java.util.List;
import java.util.regex.Matcher;
import java.util.regex.Pattern;

/** README.md: its example answers what stands beside it, and every test file is told of. */
public final class ReadmeTest {
    private static final Pattern ANSWER = Pattern.compile("(.*;) +// (-?\\d+|true|false)(:.*)?");

    public static void main(String[] args) {
        Due.test("the example is the one tested here", ReadmeTest::sameExample);
        Due.test("the example answers what its comments say", ReadmeTest::exampleAnswers);
        Due.test("a refused call answers false or -1", ReadmeTest::refusals);
        Due.test("a question out of range has the answer of the table", ReadmeTest::outOfRange);
        Due.test("every file of the tests is named", ReadmeTest::filesAreNamed);
        Due.end("ReadmeTest");
    }

    private static List<String> readme() {
        try {
            return Files.readAllLines(Path.of("README.md"));
        } catch (IOException unreadable) {
            throw new UncheckedIOException(unreadable);
        }
    }

    private static List<String> example() {
        List<String> all = readme();
        int first = all.indexOf("```java") + 1;
        List<String> rest = all.subList(first, all.size());
        return rest.subList(0, rest.indexOf("```"));
    }

    private record Line(String text, Calls.Call call) {
    }

    // The lines after the one that makes the object.
    private static final List<Line> LINES = List.of(
        new Line("x.setPolicy(0, 0, 0);", x -> x.setPolicy(0, 0, 0)),
        new Line("x.addStmt(DecentLabels.K_DECLASSIFY, 1, 0, 0);",
            x -> x.addStmt(DecentLabels.K_DECLASSIFY, 1, 0, 0)),
        new Line("x.addStmt(DecentLabels.K_OUT, 2, 1, 0);", x -> x.addStmt(DecentLabels.K_OUT, 2, 1, 0)),
        new Line("x.check();", DecentLabels::check),
        new Line("x.setActsFor(3, 0, true);", x -> x.setActsFor(3, 0, true)),
        new Line("x.setAuthority(8);", x -> x.setAuthority(8)),
        new Line("x.check();", DecentLabels::check),
        new Line("x.setInput(0, 42);", x -> x.setInput(0, 42)),
        new Line("x.start();", DecentLabels::start),
        new Line("x.run(100);", x -> x.run(100)),
        new Line("x.outCount(2);", x -> x.outCount(2)),
        new Line("x.outValue(2, 0);", x -> x.outValue(2, 0)));

    private static void sameExample() {
        List<String> due = new ArrayList<>();
        due.add("DecentLabels x = new DecentLabels(4, 16);");
        LINES.forEach(line -> due.add(line.text()));
        List<String> written = new ArrayList<>();
        example().forEach(line -> written.add(line.replaceFirst(" *//.*", "")));
        Due.same("README.md's example", written, due);
    }

    private static void exampleAnswers() {
        DecentLabels x = new DecentLabels(4, 16);
        List<String> written = example();
        for (int i = 0; i < LINES.size(); i++) {
            String answer = String.valueOf(LINES.get(i).call().on(x));
            Matcher told = ANSWER.matcher(written.get(i + 1));
            if (told.matches()) {
                Due.same(told.group(1), answer, told.group(2));
            }
        }
    }

    private static void refusals() {
        DecentLabels x = new DecentLabels(4, 16);
        Due.is("setActsFor", x.setActsFor(0, 4, true), false);
        Due.is("setPolicy", x.setPolicy(20, 0, 0), false);
        Due.is("setAuthority", x.setAuthority(16), false);
        Due.is("setInput", x.setInput(16, 0), false);
        Due.is("start", x.start(), false);
        Due.is("addStmt", x.addStmt(14, 0, 0, 0), -1);
    }

    // A row is | `call` | its answer | the answer out of range |.
    private static void outOfRange() {
        tableSays("actsFor(a, b)", "`false`", new DecentLabels(4, 16).actsFor(4, 4));
        tableSays("canRead(p, target)", "`false`", new DecentLabels(4, 16).canRead(0, 20));
        tableSays("getPolicy(target, owner)", "-2", new DecentLabels(4, 16).getPolicy(20, 0));
        tableSays("getStmt(index, field)", "-1", new DecentLabels(4, 16).getStmt(0, 0));
        tableSays("getValue(slot)", "0", new DecentLabels(4, 16).getValue(37));
        tableSays("outCount(c)", "-1", new DecentLabels(4, 16).outCount(4));
        tableSays("outValue(c, i)", "0", new DecentLabels(4, 16).outValue(0, 0));
    }

    private static void tableSays(String call, String told, Object answer) {
        boolean found = readme().stream().anyMatch(
            line -> line.startsWith("| `" + call + "` |") && line.endsWith("| " + told + " |"));
        Due.is("README.md's row of " + call, found, true);
        Due.same(call + " out of range", String.valueOf(answer), told.replace("`", ""));
    }

    private static void filesAreNamed() {
        String text = String.join("\n", readme());
        String[] files = Path.of("src/test/java").toFile().list();
        for (String file : files) {
            String name = file.replace(".java", "");
            boolean promise = name.matches("P(0[1-9]|1[0-6])[A-Z].*Test");
            Due.is(file + " is named", promise || text.contains("`" + name + "`"), true);
        }
    }
}
