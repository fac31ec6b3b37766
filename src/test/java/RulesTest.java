import java.io.IOException;
import java.lang.reflect.Constructor;
import java.lang.reflect.Field;
import java.lang.reflect.Method;
import java.lang.reflect.Modifier;
import java.nio.file.Files;
import java.nio.file.Path;
import java.util.Arrays;
import java.util.List;
import java.util.Set;
import java.util.TreeSet;
import java.util.regex.Matcher;
import java.util.regex.Pattern;

/** The face of the class, and the rules of ../shared/LANGUAGE.md that can be seen from words and members. */
public final class RulesTest {
    private static final Due due = new Due("RulesTest");
    private static final Path PROGRAM = Path.of("src/main/java/PartedSums.java");
    private static final List<String> FACE = Document.methods();
    private static final String FORBIDDEN = "\\b(throw|throws|try|catch|finally|synchronized|assert|import|package"
        + "|protected|volatile|native|transient|System\\.(?!arraycopy)\\w+|Thread|Exception|Error|Object|String)\\b|->|::";

    public static void main(String[] args) throws IOException, ReflectiveOperationException {
        constants();
        publicMembersAreTheFace();
        layout();
        otherMembersArePrivate();
        classesInside();
        sizesOfMethods();
        wordsOfTheProgram();
        due.end();
    }

    private static void constants() throws ReflectiveOperationException {
        due.start("the public face, constants");
        int constants = 0;
        for (String line : Document.face()) {
            Matcher constant = Pattern.compile(" *public static final int (\\w+) = (-\\d+);").matcher(line);
            if (constant.matches()) {
                Field field = PartedSums.class.getDeclaredField(constant.group(1));
                due.is(field + " is public static final", field.getModifiers(), Modifier.PUBLIC | Modifier.STATIC | Modifier.FINAL);
                due.is(line.strip(), field.getInt(null), Integer.parseInt(constant.group(2)));
                constants++;
            }
        }
        due.is("constants of the document", constants, 4);
        due.is("INVALID_ARGUMENT", PartedSums.INVALID_ARGUMENT, Due.INVALID);
        due.is("NOT_POSSIBLE", PartedSums.NOT_POSSIBLE, Due.IMPOSSIBLE);
        due.is("LIMIT_REACHED", PartedSums.LIMIT_REACHED, Due.LIMIT);
        due.is("NOT_FOUND", PartedSums.NOT_FOUND, Due.MISSING);
    }

    private static void publicMembersAreTheFace() {
        due.start("rule 1, the face");
        Set<String> there = new TreeSet<>();
        for (Method method : PartedSums.class.getDeclaredMethods()) {
            if (Modifier.isPublic(method.getModifiers())) {
                there.add(method.getName() + "/" + method.getParameterCount());
                due.is(method + " answers an int", method.getReturnType() == int.class ? 1 : 0, 1);
                due.is(method + " is of an object", method.getModifiers(), Modifier.PUBLIC);
                due.is(method + " takes numbers", Arrays.stream(method.getParameterTypes()).allMatch(int.class::equals) ? 1 : 0, 1);
            }
        }
        due.is("calls of the document", FACE.size(), 26);
        due.is("the face is " + there, there.equals(new TreeSet<>(FACE)) ? 1 : 0, 1);
        Constructor<?>[] constructors = PartedSums.class.getDeclaredConstructors();
        due.is("constructors", constructors.length, 1);
        due.is("public", Modifier.isPublic(constructors[0].getModifiers()) ? 1 : 0, 1);
        due.is("of nothing", constructors[0].getParameterCount(), 0);
        due.is("final", Modifier.isFinal(PartedSums.class.getModifiers()) ? 1 : 0, 1);
    }

    /** The program has the lines of the document's face in their order, and its words ahead of the calls. */
    private static void layout() throws IOException {
        due.start("the public face, its lines");
        String code = Files.readString(PROGRAM);
        int at = 0;
        for (String line : Document.face()) {
            int next = code.indexOf(line.replaceFirst("(\\));$", "$1 {"), at);
            due.is("the program has, behind those ahead, " + line, next >= at ? 1 : 0, 1);
            at = Math.max(at, next);
        }
        due.is("groups of calls", Document.layout().size(), 5);
        for (String line : Document.layout()) {
            String words = line.replaceFirst(".* the interface says: (.*)\\.", "$1");
            String first = line.replaceFirst("[^`]*`(\\w+)`.*", "$1");
            int heading = code.indexOf("    // " + words + "\n");
            int behind = code.indexOf("    public ", heading);
            due.is(words + " is ahead of " + first, heading >= 0 && code.startsWith("    public int " + first + "(", behind) ? 1 : 0, 1);
        }
    }

    private static void otherMembersArePrivate() {
        due.start("rules 1 and 5, other members");
        Set<String> names = new TreeSet<>();
        for (String member : FACE) {
            names.add(member.substring(0, member.indexOf('/')));
        }
        for (Method method : PartedSums.class.getDeclaredMethods()) {
            int modifiers = method.getModifiers();
            due.is(method + " is public or private", Modifier.isPublic(modifiers) || Modifier.isPrivate(modifiers) ? 1 : 0, 1);
            due.is(method + " bears a name of its own",
                Modifier.isPublic(modifiers) || !names.contains(method.getName()) ? 1 : 0, 1);
        }
        int constants = 0;
        for (Field field : PartedSums.class.getDeclaredFields()) {
            int modifiers = field.getModifiers();
            constants += Modifier.isPublic(modifiers) ? 1 : 0;
            due.is(field + " is public or private", Modifier.isPublic(modifiers) || Modifier.isPrivate(modifiers) ? 1 : 0, 1);
            due.is(field + " is final if static", !Modifier.isStatic(modifiers) || Modifier.isFinal(modifiers) ? 1 : 0, 1);
        }
        due.is("public constants", constants, 4);
    }

    private static void classesInside() {
        due.start("rules 2 and 11, classes inside");
        Class<?>[] classes = PartedSums.class.getDeclaredClasses();
        due.is("some twelve at most", classes.length <= 12 ? 1 : 0, 1);
        for (Class<?> inside : classes) {
            due.is(inside + " is static", Modifier.isStatic(inside.getModifiers()) ? 1 : 0, 1);
            due.is(inside + " has some twenty fields", inside.getDeclaredFields().length <= 20 ? 1 : 0, 1);
        }
    }

    private static void sizesOfMethods() throws IOException {
        due.start("rule 11, methods");
        due.is("seven parameters at most, of the face", mostParameters(PartedSums.class) <= 7 ? 1 : 0, 1);
        for (Class<?> inside : PartedSums.class.getDeclaredClasses()) {
            due.is("seven parameters at most, of " + inside, mostParameters(inside) <= 7 ? 1 : 0, 1);
        }
        int lines = 0;
        for (String line : Files.readAllLines(PROGRAM)) {
            boolean ends = line.equals("    }") || line.equals("        }");
            lines = ends || line.isBlank() ? 0 : lines + 1;
            due.is("sixty lines at most: " + line, lines <= 60 ? 1 : 0, 1);
        }
    }

    private static int mostParameters(Class<?> owner) {
        return Arrays.stream(owner.getDeclaredMethods()).mapToInt(Method::getParameterCount).max().orElse(0);
    }

    private static void wordsOfTheProgram() throws IOException {
        due.start("rules 4 and 6, words");
        String code = Files.readString(PROGRAM).replaceAll("(?s)/\\*.*?\\*/", "").replaceAll("//[^\n]*", "");
        Matcher word = Pattern.compile(FORBIDDEN).matcher(code);
        due.is("forbidden word " + (word.find() ? word.group() : ""), word.reset().find() ? 1 : 0, 0);
    }
}
