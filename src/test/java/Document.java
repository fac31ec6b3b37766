import java.io.IOException;
import java.io.UncheckedIOException;
import java.nio.file.Files;
import java.nio.file.Path;
import java.util.ArrayList;
import java.util.Collection;
import java.util.HashMap;
import java.util.LinkedHashMap;
import java.util.List;
import java.util.Map;
import java.util.regex.Matcher;
import java.util.regex.Pattern;

/** ../shared/DOC.md by its sections, and what of it the tests have quoted. */
final class Document {
    private static final Path FILE = Path.of("../shared/DOC.md");
    private static final String FIRST = "What it is";
    private static final String BEHIND = "Not promised";
    private static final String LAYOUT = "Ahead of the calls ";

    private static final Pattern METHOD = Pattern.compile(" *public int (\\w+)\\((.*)\\);");

    private static final Map<String, String> texts = read();
    private static final Map<String, List<String>> quotes = new HashMap<>();

    private Document() { }

    /** The text of each section from the first one to the last promise. */
    private static Map<String, String> read() {
        Map<String, String> sections = new LinkedHashMap<>();
        String section = "";
        boolean inside = false;
        for (String line : lines()) {
            if (line.startsWith("#")) {
                section = line.replaceFirst("#+ ", "").replaceFirst(":.*", "");
                inside = (inside || section.equals(FIRST)) && !section.equals(BEHIND);
            } else if (inside && isText(line)) {
                sections.merge(section, line, (ahead, next) -> ahead + "\n" + next);
            }
        }
        return sections;
    }

    /** Headings, and what says how the interface is laid out, are no text. */
    private static boolean isText(String line) {
        return (line.endsWith(".") || line.startsWith("- ")) && !line.startsWith(LAYOUT);
    }

    private static List<String> lines() {
        try {
            return Files.readAllLines(FILE);
        } catch (IOException e) {
            throw new UncheckedIOException(e);
        }
    }

    static Collection<String> texts() {
        return texts.values();
    }

    /** The lines of the code that shows the public face. */
    static List<String> face() {
        List<String> lines = lines();
        int start = lines.indexOf("```java");
        return lines.subList(start + 1, start + lines.subList(start, lines.size()).indexOf("```"));
    }

    /** The methods of the public face as name/number of parameters, in their order. */
    static List<String> methods() {
        List<String> methods = new ArrayList<>();
        for (String line : face()) {
            Matcher method = METHOD.matcher(line);
            if (method.matches()) {
                String parameters = method.group(2);
                methods.add(method.group(1) + "/" + (parameters.isEmpty() ? 0 : parameters.split(", ").length));
            }
        }
        return methods;
    }

    /** The lines that say behind which words of the interface calls stand. */
    static List<String> layout() {
        return lines().stream().filter(line -> line.startsWith(LAYOUT)).toList();
    }

    /** Notes that the words have a test; returns whether the section has them. */
    static boolean quote(String section, String words) {
        quotes.computeIfAbsent(section, name -> new ArrayList<>()).add(words);
        return texts.getOrDefault(section, "").contains(words);
    }

    /** Returns the clauses of which no test has quoted anything; one ends with a line, ". " or "; ". */
    static List<String> unquoted() {
        List<String> rest = new ArrayList<>();
        texts.forEach((section, text) -> {
            for (String clause : text.split("\\.?\n|\\. |; |\\.$")) {
                List<String> there = quotes.getOrDefault(section, List.of());
                if (there.stream().noneMatch(words -> words.contains(clause) || clause.contains(words))) {
                    rest.add(section + ": " + clause);
                }
            }
        });
        return rest;
    }
}
