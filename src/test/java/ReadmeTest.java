import java.lang.reflect.Method;
import java.lang.reflect.Modifier;
import java.nio.charset.StandardCharsets;
import java.nio.file.Files;
import java.nio.file.Path;
import java.util.List;

/**
 * What README.md shows: a run for each part of the document, every call of the face. That the runs
 * answer as README.md prints is found by the program which {@link Readme} makes of them.
 */
final class ReadmeTest {
    private static final String[] PARTS = {"Types and packs", "Trips and sales",
        "Waybills and riders", "The tape and its laws", "Fares", "Sheets", "Duties"};

    public static void main(String[] args) throws Exception {
        String text = Files.readString(Path.of("README.md"), StandardCharsets.UTF_8);
        List<Readme.Block> blocks = Readme.blocks(text);
        for (String part : PARTS) {
            long runs = blocks.stream()
                    .filter(block -> block.head().equals(part) && !block.isMethod()).count();
            Check.due("README.md: runs of " + part, runs, 1);
        }
        calls(text, blocks);
        programs();
        refusals();
        Check.finish();
    }

    private static void calls(String text, List<Readme.Block> blocks) {
        for (Method m : TramPence.class.getDeclaredMethods()) {
            if (Modifier.isPublic(m.getModifiers())) {
                String call = m.getName() + "(";
                Check.holds("README.md shows a call of " + call, blocks.stream().anyMatch(block ->
                        block.lines().stream().anyMatch(line -> line.contains("x." + call))));
                Check.holds("README.md tells what " + call + " takes",
                        text.contains("\n| `" + call));
            }
        }
    }

    private static void programs() {
        String run = "TramPence x = new TramPence();\n\nx.laws();  // 0: none\nint t = x.trip(0,"
                + " true);     // 0\nput(x, \"a;\");  // -8\n";
        String made = Readme.program("# Head\n```java\nstatic int put() {\n}\n```\n```java\n" + run
                + "```\n");
        Check.holds("a method stays as it is: " + made, made.contains("\nstatic int put() {\n}\n"));
        Check.holds("a new object stays as it is: " + made,
                made.contains("\nTramPence x = new TramPence();\n"));
        Check.holds("a call is asked: " + made,
                made.contains("\nCheck.due(\"README.md:9: x.laws()\", x.laws(), 0);\n"));
        Check.holds("a call with a name is asked once: " + made,
                made.contains("\nint t = x.trip(0, true); Check.due(\"README.md:10: int t ="
                        + " x.trip(0, true)\", t, 0);\n"));
        Check.holds("a text in a call: " + made, made.contains(
                "\nCheck.due(\"README.md:11: put(x, \\\"a;\\\")\", put(x, \"a;\"), -8);\n"));
    }

    private static void refusals() {
        refused("no block", "# Head\nx.laws();  // 0\n");
        refused("a block without an end", "```java\nx.laws();  // 0\n");
        refused("a call without an answer", "```java\nx.laws();\n```\n");
        refused("an answer that is no number", "```java\nx.laws();  // none\n```\n");
        refused("two calls on one line, one answer", "```java\nx.laws(); x.laws();\n```\n");
        refused("a statement that is no call", "```java\nif (x.laws() > 0) {\n```\n");
    }

    private static void refused(String what, String text) {
        boolean thrown = false;
        try {
            Readme.program(text);
        } catch (IllegalArgumentException e) {
            thrown = true;
        }
        Check.holds("refused: " + what, thrown);
    }
}
