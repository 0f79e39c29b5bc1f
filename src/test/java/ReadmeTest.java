import java.io.IOException;
import java.nio.file.Files;
import java.nio.file.Path;

/** The README answers what its example says, and tells of each call of the face and of each test. */
public final class ReadmeTest {
    private final Checks checks = new Checks("ReadmeTest");
    private final String readme;

    private ReadmeTest(String readme) {
        this.readme = readme;
    }

    /** The line of the example stands in the README with this answer ahead of what it explains. */
    private void line(String call, Object answer, Checks.Call made) {
        boolean stands = readme.lines().map(String::strip)
                .anyMatch(l -> l.startsWith(call + ";") && l.replaceFirst(".*// ", "").matches(answer + "\\b.*"));
        checks.due("the README has " + call + " with the answer " + answer, true, () -> stands);
        checks.due("the README's " + call, answer, made);
    }

    private void example() {
        BlockDistance x = new BlockDistance();
        Scene.append(x, "abca|abda");
        line("x.load()", 8, () -> x.load());
        line("x.distance()", 1, () -> x.distance());
        line("x.steps()", 4, () -> x.steps());
        line("x.step(2)", 1, () -> x.step(2));
        line("x.measure()", 1, () -> x.measure());
        line("x.misses()", 4, () -> x.misses());
        line("x.missesToCome()", 0, () -> x.missesToCome());
        line("x.bestReplacement(0)", 23, () -> x.bestReplacement(0));
        line("x.ifReplaced(0, 2, 3)", 0, () -> x.ifReplaced(0, 2, 3));
        line("x.replace(0, 2, 3)", 2, () -> x.replace(0, 2, 3));
        line("x.similarity()", 1.0, () -> x.similarity());
        line("x.undo()", 1, () -> x.undo());
    }

    private void calls() {
        for (var method : BlockDistance.class.getMethods()) {
            if (method.getDeclaringClass() == BlockDistance.class) {
                checks.due("the README tells of " + method.getName(), true,
                        () -> readme.contains("`" + method.getName() + "("));
            }
        }
    }

    private void tests() throws IOException {
        try (var files = Files.list(Path.of("src/test/java"))) {
            for (Path file : files.toList()) {
                String name = file.getFileName().toString().replace(".java", "");
                checks.due("the README tells of " + name, true, () -> readme.contains("`" + name + "`"));
            }
        }
    }

    public static void main(String[] args) throws IOException {
        ReadmeTest test = new ReadmeTest(Files.readString(Path.of("README.md")));
        test.example();
        test.calls();
        test.tests();
        test.checks.end();
    }
}
