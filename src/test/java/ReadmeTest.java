import java.io.IOException;
import java.net.URL;
import java.net.URLClassLoader;
import java.nio.file.Files;
import java.nio.file.Path;
import java.util.Arrays;
import java.util.function.Predicate;
import java.util.function.Supplier;
import java.util.regex.Matcher;
import java.util.regex.Pattern;
import javax.tools.ToolProvider;

/** What README.md shows of the use of the class: the calls that it shows answer what it names for them. */
public final class ReadmeTest {
    private static final Due due = new Due("ReadmeTest");
    private static final String PROGRAM = "ReadmeExamples";
    private static final String[] CODES = {"INVALID_ARGUMENT", "NOT_POSSIBLE", "LIMIT_REACHED", "NOT_FOUND"};

    public static void main(String[] args) throws IOException, ReflectiveOperationException {
        Readme readme = new Readme();
        eachCallNamesItsAnswer(readme);
        answersAreAsNamed(readme);
        eachCodeIsNamed(readme);
        eachCallIsShown(readme);
        eachWhatIsShown(readme);
        due.end();
    }

    private static void eachCallNamesItsAnswer(Readme readme) {
        due.start("README.md");
        for (String line : readme.others) {
            due.is("a call without an answer, " + line, 0, 1);
        }
    }

    private static void answersAreAsNamed(Readme readme) throws IOException, ReflectiveOperationException {
        int[] answers = answersOf(readme);
        for (int k = 0; k < answers.length; k++) {
            Readme.Call call = readme.calls.get(k);
            due.start("README.md, line " + call.line());
            due.is(call.words(), answers[k], named(call.answer()));
        }
    }

    private static int named(String answer) throws ReflectiveOperationException {
        boolean code = Character.isUpperCase(answer.charAt(0));
        return code ? PartedSums.class.getField(answer).getInt(null) : Integer.parseInt(answer);
    }

    /** Compiles and runs the examples, so that they are shown as they can be used. */
    private static int[] answersOf(Readme readme) throws IOException, ReflectiveOperationException {
        Path folder = Files.createTempDirectory("readme");
        Path source = folder.resolve(PROGRAM + ".java");
        Path compiled = folder.resolve(PROGRAM + ".class");
        try {
            Files.writeString(source, readme.program(PROGRAM));
            int faults = ToolProvider.getSystemJavaCompiler().run(null, null, null,
                "-cp", System.getProperty("java.class.path"), "-d", folder.toString(), source.toString());
            due.is("the examples compile", faults, 0);
            return faults == 0 ? run(folder) : new int[0];
        } finally {
            Files.deleteIfExists(compiled);
            Files.deleteIfExists(source);
            Files.deleteIfExists(folder);
        }
    }

    private static int[] run(Path folder) throws IOException, ReflectiveOperationException {
        try (URLClassLoader loader = new URLClassLoader(new URL[] {folder.toUri().toURL()})) {
            Object program = loader.loadClass(PROGRAM).getConstructor().newInstance();
            if (program instanceof Supplier<?> examples && examples.get() instanceof int[] answers) {
                return answers;
            }
            throw new IllegalStateException(PROGRAM + " gives no answers");
        }
    }

    private static void shows(Readme readme, String words, Predicate<Readme.Call> wanted) {
        due.is(words, readme.calls.stream().anyMatch(wanted) ? 1 : 0, 1);
    }

    private static void eachCodeIsNamed(Readme readme) {
        due.start("README.md, the error codes");
        for (String code : CODES) {
            shows(readme, code + " is answered", call -> call.answer().equals(code));
        }
    }

    private static void eachCallIsShown(Readme readme) {
        due.start("README.md, the calls");
        for (String method : Document.methods()) {
            String name = method.substring(0, method.indexOf('/'));
            shows(readme, name + " is shown", call -> call.method().equals(name));
        }
    }

    /** The document lists what a call can be asked for as "- `what`: 0: ..; 1: ..". */
    private static void eachWhatIsShown(Readme readme) {
        due.start("README.md, what can be asked");
        int asking = 0;
        for (String text : Document.texts()) {
            Matcher method = Pattern.compile("`int (\\w+)\\(.*, int what\\)`|`int (\\w+)\\(int what\\)`").matcher(text);
            if (!method.find()) {
                continue;
            }
            asking++;
            String name = method.group(1) == null ? method.group(2) : method.group(1);
            for (int what : listed(text)) {
                shows(readme, name + " is shown with what " + what,
                    call -> call.method().equals(name) && call.endsWith(what));
            }
        }
        due.is("calls that ask for what", asking, 8);
    }

    private static int[] listed(String text) {
        String list = text.replaceFirst("(?s).*- `what`: ", "").replaceFirst("(?s)\n.*", "");
        int[] numbers = Arrays.stream(list.split("; "))
            .mapToInt(item -> Integer.parseInt(item.replaceFirst(":.*", ""))).toArray();
        due.is("numbers of what, at least 0 and 1: " + list, numbers.length >= 2 ? 1 : 0, 1);
        return numbers;
    }
}
