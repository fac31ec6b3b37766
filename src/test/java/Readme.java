import java.io.IOException;
import java.nio.file.Files;
import java.nio.file.Path;
import java.util.ArrayList;
import java.util.List;
import java.util.regex.Matcher;
import java.util.regex.Pattern;

/** The examples of README.md: their calls, with the answers that it names, and a program that makes the calls. */
final class Readme {
    private static final Path FILE = Path.of("README.md");
    private static final Pattern LINE =
        Pattern.compile("(int \\w+ = )?(sums\\.(\\w+)\\((.*)\\));\\s*// (-?\\d+|[A-Z_]+)(, .+)?");

    /** A call that stands in a line of its own, with its answer. */
    record Call(int line, String words, String method, String arguments, String answer) {
        /** Whether its last argument is this number. */
        boolean endsWith(int number) {
            return arguments.replaceFirst(".*, ", "").equals(String.valueOf(number));
        }
    }

    final List<Call> calls = new ArrayList<>();
    /** Lines that call the class and are neither indented nor of the form above. */
    final List<String> others = new ArrayList<>();
    private final StringBuilder methods = new StringBuilder();
    private final StringBuilder run = new StringBuilder();

    Readme() throws IOException {
        List<String> lines = Files.readAllLines(FILE);
        boolean inside = false;
        for (int k = 0; k < lines.size(); k++) {
            String line = lines.get(k);
            if (line.equals("```java")) {
                inside = true;
                run.append("example").append(k).append("();\n");
                methods.append("private void example").append(k).append("() {\n");
            } else if (inside && line.equals("```")) {
                inside = false;
                methods.append("}\n");
            } else if (inside) {
                takeLine(k + 1, line);
            }
        }
    }

    private void takeLine(int number, String line) {
        Matcher found = LINE.matcher(line);
        if (!found.matches()) {
            if (line.contains("sums.") && !line.startsWith(" ")) {
                others.add("line " + number + ": " + line);
            }
            methods.append(line).append("\n");
            return;
        }
        String declared = found.group(1) == null ? "" : found.group(1);
        methods.append(declared).append("answers[").append(calls.size()).append("] = ");
        methods.append(found.group(2)).append(";\n");
        calls.add(new Call(number, found.group(2), found.group(3), found.group(4), found.group(5)));
    }

    /** A class of this name that gives the answers of the calls in their order, each example being a method of it. */
    String program(String name) {
        return "public final class " + name + " implements java.util.function.Supplier<int[]> {\n"
            + "private final int[] answers = new int[" + calls.size() + "];\n"
            + "public int[] get() {\n" + run + "return answers;\n}\n" + methods + "}\n";
    }
}
