import java.io.IOException;
import java.nio.charset.StandardCharsets;
import java.nio.file.Files;
import java.nio.file.Path;
import java.util.ArrayList;
import java.util.List;
import java.util.regex.Matcher;
import java.util.regex.Pattern;

/**
 * README.md's blocks of Java, made a program: what begins with "static" is a method of it, every
 * other block is a run of its own. There each call stands on one line, its answer beside it:
 * {@code x.type(2, 3);  // 0: words}.
 */
final class Readme {
    private static final String NEW_OBJECT = "TramPence x = new TramPence();";
    private static final Pattern CALL =
            Pattern.compile("((?:int (\\w+) = )?(.+)); +// (-?\\d+)(?:: .*)?");

    /** A block under its head. */
    record Block(String head, int firstLine, List<String> lines) {
        boolean isMethod() {
            return lines.stream().anyMatch(line -> line.startsWith("static "));
        }
    }

    private Readme() {
    }

    /** README.md's path, and where the program is to be written. */
    public static void main(String[] args) throws IOException {
        String text = Files.readString(Path.of(args[0]), StandardCharsets.UTF_8);
        Files.writeString(Path.of(args[1]), program(text), StandardCharsets.UTF_8);
    }

    static List<Block> blocks(String text) {
        List<Block> blocks = new ArrayList<>();
        String head = "";
        Block open = null;
        String[] lines = text.split("\n", -1);
        for (int i = 0; i < lines.length; i++) {
            String line = lines[i];
            if (open != null && line.equals("```")) {
                blocks.add(open);
                open = null;
            } else if (open != null) {
                open.lines.add(line);
            } else if (line.equals("```java")) {
                open = new Block(head, i + 2, new ArrayList<>());
            } else if (line.startsWith("#")) {
                head = line.replace("#", "").trim();
            }
        }
        if (open != null) {
            throw new IllegalArgumentException("line " + open.firstLine + ": a block without an end");
        }
        return blocks;
    }

    static String program(String text) {
        StringBuilder methods = new StringBuilder();
        StringBuilder runs = new StringBuilder();
        for (Block block : blocks(text)) {
            if (block.isMethod()) {
                methods.append(String.join("\n", block.lines)).append('\n');
            } else {
                runs.append("{\n").append(run(block)).append("}\n");
            }
        }
        if (runs.length() == 0) {
            throw new IllegalArgumentException("no run");
        }
        return "final class ReadmeRuns {\n" + methods + "public static void main(String[] args) {\n"
                + runs + "Check.finish();\n}\n}\n";
    }

    private static String run(Block block) {
        StringBuilder run = new StringBuilder();
        for (int i = 0; i < block.lines.size(); i++) {
            String line = block.lines.get(i);
            if (!line.isBlank()) {
                run.append(statement("README.md:" + (block.firstLine + i), line)).append('\n');
            }
        }
        return run.toString();
    }

    private static String statement(String place, String line) {
        if (line.equals(NEW_OBJECT)) {
            return line;
        }
        Matcher call = CALL.matcher(line);
        if (!call.matches()) {
            throw new IllegalArgumentException(place + ": not a call with its answer: " + line);
        }
        String told = place + ": " + call.group(1).replace("\\", "\\\\").replace("\"", "\\\"");
        boolean named = call.group(2) != null;
        return (named ? call.group(1) + "; " : "") + "Check.due(\"" + told + "\", "
                + (named ? call.group(2) : call.group(3)) + ", " + call.group(4) + ");";
    }
}
