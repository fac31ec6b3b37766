import java.io.IOException;
import java.lang.reflect.Constructor;
import java.lang.reflect.Field;
import java.lang.reflect.Method;
import java.lang.reflect.Modifier;
import java.nio.file.Files;
import java.nio.file.Path;
import java.util.Arrays;
import java.util.Set;
import java.util.TreeSet;
import java.util.regex.Matcher;
import java.util.regex.Pattern;

/** The face of the class, and the rules of ../shared/LANGUAGE.md that can be seen from words and members. */
public final class RulesTest {
    private static final Due due = new Due("RulesTest");
    private static final Path PROGRAM = Path.of("src/main/java/PartedSums.java");
    private static final String FACE = "writer/1 add/2 take/2 retire/2 move/2 view/1 drop/1 merge/2 post/3 tick/1"
        + " viewOf/2 partOf/3 writerOf/2 letterOf/2 lacks/3 whole/0 seen/0 rounds/0 would/2 latest/1 count/1 undo/0"
        + " type/1 clearText/0 fault/1 play/0";
    private static final String FORBIDDEN = "\\b(throw|throws|try|catch|finally|synchronized|assert|import|package"
        + "|protected|volatile|native|transient|System\\.(?!arraycopy)\\w+|Thread|Exception|Error|Object|String)\\b|->|::";

    public static void main(String[] args) throws IOException {
        constants();
        publicMembersAreTheFace();
        otherMembersArePrivate();
        classesInside();
        sizesOfMethods();
        wordsOfTheProgram();
        due.end();
    }

    private static void constants() {
        due.start("constants");
        due.is("INVALID_ARGUMENT", PartedSums.INVALID_ARGUMENT, -2000000001);
        due.is("NOT_POSSIBLE", PartedSums.NOT_POSSIBLE, -2000000002);
        due.is("LIMIT_REACHED", PartedSums.LIMIT_REACHED, -2000000003);
        due.is("NOT_FOUND", PartedSums.NOT_FOUND, -2000000004);
    }

    private static void publicMembersAreTheFace() {
        due.start("rule 1, the face");
        Set<String> wanted = new TreeSet<>(Arrays.asList(FACE.split(" ")));
        Set<String> there = new TreeSet<>();
        for (Method method : PartedSums.class.getDeclaredMethods()) {
            if (Modifier.isPublic(method.getModifiers())) {
                there.add(method.getName() + "/" + method.getParameterCount());
                due.is(method + " answers an int", method.getReturnType() == int.class ? 1 : 0, 1);
            }
        }
        due.is("the face is " + there, there.equals(wanted) ? 1 : 0, 1);
        Constructor<?>[] constructors = PartedSums.class.getDeclaredConstructors();
        due.is("constructors", constructors.length, 1);
        due.is("public", Modifier.isPublic(constructors[0].getModifiers()) ? 1 : 0, 1);
        due.is("final", Modifier.isFinal(PartedSums.class.getModifiers()) ? 1 : 0, 1);
    }

    private static void otherMembersArePrivate() {
        due.start("rules 1 and 5, other members");
        Set<String> names = new TreeSet<>();
        for (String member : FACE.split(" ")) {
            names.add(member.substring(0, member.indexOf('/')));
        }
        for (Method method : PartedSums.class.getDeclaredMethods()) {
            int modifiers = method.getModifiers();
            due.is(method + " is public or private", Modifier.isPublic(modifiers) || Modifier.isPrivate(modifiers) ? 1 : 0, 1);
            due.is(method + " bears a name of its own",
                Modifier.isPublic(modifiers) || !names.contains(method.getName()) ? 1 : 0, 1);
        }
        int constants = 0;
        for (Field field : PartedSums.class.getDeclaredFields()) {
            int modifiers = field.getModifiers();
            constants += Modifier.isPublic(modifiers) ? 1 : 0;
            due.is(field + " is public or private", Modifier.isPublic(modifiers) || Modifier.isPrivate(modifiers) ? 1 : 0, 1);
            due.is(field + " is final if static", !Modifier.isStatic(modifiers) || Modifier.isFinal(modifiers) ? 1 : 0, 1);
        }
        due.is("public constants", constants, 4);
    }

    private static void classesInside() {
        due.start("rules 2 and 11, classes inside");
        Class<?>[] classes = PartedSums.class.getDeclaredClasses();
        due.is("some twelve at most", classes.length <= 12 ? 1 : 0, 1);
        for (Class<?> inside : classes) {
            due.is(inside + " is static", Modifier.isStatic(inside.getModifiers()) ? 1 : 0, 1);
            due.is(inside + " has some twenty fields", inside.getDeclaredFields().length <= 20 ? 1 : 0, 1);
        }
    }

    private static void sizesOfMethods() throws IOException {
        due.start("rule 11, methods");
        due.is("seven parameters at most, of the face", mostParameters(PartedSums.class) <= 7 ? 1 : 0, 1);
        for (Class<?> inside : PartedSums.class.getDeclaredClasses()) {
            due.is("seven parameters at most, of " + inside, mostParameters(inside) <= 7 ? 1 : 0, 1);
        }
        int lines = 0;
        for (String line : Files.readAllLines(PROGRAM)) {
            boolean ends = line.equals("    }") || line.equals("        }");
            lines = ends || line.isBlank() ? 0 : lines + 1;
            due.is("sixty lines at most: " + line, lines <= 60 ? 1 : 0, 1);
        }
    }

    private static int mostParameters(Class<?> owner) {
        return Arrays.stream(owner.getDeclaredMethods()).mapToInt(Method::getParameterCount).max().orElse(0);
    }

    private static void wordsOfTheProgram() throws IOException {
        due.start("rules 4 and 6, words");
        String code = Files.readString(PROGRAM).replaceAll("(?s)/\\*.*?\\*/", "").replaceAll("//[^\n]*", "");
        Matcher word = Pattern.compile(FORBIDDEN).matcher(code);
        due.is("forbidden word " + (word.find() ? word.group() : ""), word.reset().find() ? 1 : 0, 0);
    }
}
