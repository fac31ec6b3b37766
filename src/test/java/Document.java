import java.io.IOException;
import java.io.UncheckedIOException;
import java.nio.file.Files;
import java.nio.file.Path;
import java.util.ArrayList;
import java.util.HashMap;
import java.util.LinkedHashMap;
import java.util.List;
import java.util.Map;

/** ../shared/DOC.md by its sections, and what of it the tests have quoted. */
final class Document {
    private static final Path FILE = Path.of("../shared/DOC.md");
    private static final String FIRST = "Terms";
    private static final String BEHIND = "Not promised";

    private static final Map<String, String> texts = read();
    private static final Map<String, List<String>> quotes = new HashMap<>();

    private Document() { }

    /** The text of each section from the terms to the last promise. */
    private static Map<String, String> read() {
        Map<String, String> sections = new LinkedHashMap<>();
        String section = "";
        boolean inside = false;
        for (String line : lines()) {
            if (line.startsWith("#")) {
                section = line.replaceFirst("#+ ", "").replaceFirst(":.*", "");
                inside = (inside || section.equals(FIRST)) && !section.equals(BEHIND);
            } else if (inside && isText(line)) {
                sections.merge(section, line, (ahead, next) -> ahead + "\n" + next);
            }
        }
        return sections;
    }

    /** Headings, and what says how the interface is laid out, are no text. */
    private static boolean isText(String line) {
        return (line.endsWith(".") || line.startsWith("- ")) && !line.startsWith("Ahead of the calls");
    }

    private static List<String> lines() {
        try {
            return Files.readAllLines(FILE);
        } catch (IOException e) {
            throw new UncheckedIOException(e);
        }
    }

    /** Notes that the words have a test; returns whether the section has them. */
    static boolean quote(String section, String words) {
        quotes.computeIfAbsent(section, name -> new ArrayList<>()).add(words);
        return texts.getOrDefault(section, "").contains(words);
    }

    /** Returns the clauses of which no test has quoted anything; one ends with a line, ". " or "; ". */
    static List<String> unquoted() {
        List<String> rest = new ArrayList<>();
        texts.forEach((section, text) -> {
            for (String clause : text.split("\\.?\n|\\. |; |\\.$")) {
                List<String> there = quotes.getOrDefault(section, List.of());
                if (there.stream().noneMatch(words -> words.contains(clause) || clause.contains(words))) {
                    rest.add(section + ": " + clause);
                }
            }
        });
        return rest;
    }
}
