import java.io.IOException;
import java.lang.reflect.Field;
import java.lang.reflect.Method;
import java.lang.reflect.Modifier;
import java.nio.charset.StandardCharsets;
import java.nio.file.Files;
import java.nio.file.Path;
import java.util.Set;
import java.util.TreeSet;
import java.util.regex.Matcher;
import java.util.regex.Pattern;

/** What can be told of LANGUAGE.md and of the document's face by a look at the source and at the class. */
public final class LanguageTest {
    private static final Path SOURCE = Path.of("src/main/java/WindowMatches.java");
    private static final Set<String> FACE = Set.of("event", "forget", "setLateness", "addPattern", "dropPattern",
            "setWindow", "type", "clearText", "undo", "keep", "restore", "eventOf", "pattern", "step", "match",
            "ifEvent", "count");
    private static final Set<String> CONSTANTS = Set.of("UNKNOWN", "BAD_VALUE", "FULL", "TOO_LATE", "NONE");
    private static final String FORBIDDEN = "\\b(throw|throws|try|catch|finally|synchronized|assert|import|package"
            + "|instanceof|equals|hashCode|toString|System\\.(?!arraycopy)|Thread|Random|while \\(true\\)|for \\(;;)"
            + "|->|::|\" \\+|\\+ \"|\\[\\]\\[\\]";

    private final Check check = new Check();

    public static void main(String[] args) throws IOException {
        LanguageTest test = new LanguageTest();
        String source = Files.readString(SOURCE, StandardCharsets.US_ASCII);
        test.forbiddenWords(source);
        test.methodsAreShort(source);
        test.face();
        for (Class<?> inside : WindowMatches.class.getDeclaredClasses()) {
            test.classInside(inside);
        }
        test.check.holds("at most twelve classes", WindowMatches.class.getDeclaredClasses().length < 12);
        test.check.end();
    }

    private void forbiddenWords(String source) {
        String code = source.replaceAll("(?s)/\\*.*?\\*/", "").replaceAll("//.*", "");
        Matcher found = Pattern.compile(FORBIDDEN).matcher(code);
        while (found.find()) {
            check.holds("the source is without " + found.group(), false);
        }
        check.holds("the source is read", code.contains("class WindowMatches"));
    }

    private void methodsAreShort(String source) {
        String name = "";
        int length = 0;
        for (String line : source.split("\n")) {
            if (line.matches(" {4,8}(public|private).*\\) \\{")) {
                name = line.trim();
                length = 0;
            }
            length++;
            if (line.matches(" {4,8}\\}")) {
                check.holds("at most 60 lines: " + name, length <= 60);
                length = 0;
            }
        }
    }

    private void face() {
        Set<String> methods = new TreeSet<>();
        for (Method method : WindowMatches.class.getDeclaredMethods()) {
            boolean isPublic = Modifier.isPublic(method.getModifiers());
            check.holds("public or private: " + method, isPublic || Modifier.isPrivate(method.getModifiers()));
            check.holds("in the face or not: " + method, isPublic == FACE.contains(method.getName()));
            if (isPublic) {
                methods.add(method.getName());
                check.holds("answers an int: " + method, method.getReturnType() == int.class);
                check.holds("of an object: " + method, !Modifier.isStatic(method.getModifiers()));
            }
        }
        check.holds("every method of the face", methods.equals(FACE));
        Set<String> constants = new TreeSet<>();
        for (Field field : WindowMatches.class.getDeclaredFields()) {
            boolean isPublic = Modifier.isPublic(field.getModifiers());
            check.holds("public or private: " + field, isPublic || Modifier.isPrivate(field.getModifiers()));
            staticIsFinal(field);
            if (isPublic) {
                constants.add(field.getName());
            }
        }
        check.holds("every constant of the face", constants.equals(CONSTANTS));
        check.due("public constructors", WindowMatches.class.getConstructors().length, 1);
        check.holds("a final class", Modifier.isFinal(WindowMatches.class.getModifiers()));
    }

    private void classInside(Class<?> inside) {
        check.holds("static: " + inside, Modifier.isStatic(inside.getModifiers()));
        check.holds("no more classes in " + inside, inside.getDeclaredClasses().length == 0);
        int fields = 0;
        for (Field field : inside.getDeclaredFields()) {
            staticIsFinal(field);
            fields += Modifier.isStatic(field.getModifiers()) ? 0 : 1;
        }
        check.holds("at most twenty fields in " + inside, fields <= 20);
        for (Method method : inside.getDeclaredMethods()) {
            check.holds("no name of the face: " + method, !FACE.contains(method.getName()));
            check.holds("at most seven parameters: " + method, method.getParameterCount() <= 7);
        }
    }

    private void staticIsFinal(Field field) {
        int modifiers = field.getModifiers();
        check.holds("final: " + field, !Modifier.isStatic(modifiers) || Modifier.isFinal(modifiers));
    }
}
