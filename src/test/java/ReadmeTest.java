import java.io.IOException;
import java.lang.reflect.Method;
import java.lang.reflect.Modifier;
import java.nio.charset.StandardCharsets;
import java.nio.file.Files;
import java.nio.file.Path;
import java.util.ArrayList;
import java.util.List;
import java.util.regex.Matcher;
import java.util.regex.Pattern;
import java.util.stream.Stream;

/** README.md holds: the answers that its example tells, and its lists of the calls and of the tests. */
public final class ReadmeTest {
    private static final Path README = Path.of("README.md");
    private static final Path TESTS = Path.of("src/test/java");
    private static final String EXAMPLE = "```java\n(.*?)```";
    private static final Pattern TYPED = Pattern.compile("for \\(char c : \"(.*)\"\\.toCharArray\\(\\)\\) \\{");
    private static final Pattern ANSWERED = Pattern.compile("(x\\..*;) +// (-?\\d+).*");

    private final Check check = new Check();
    private final String page;
    private final List<String> calls = new ArrayList<>();
    private final List<Integer> answers = new ArrayList<>();
    private String typed = "";
    private int told = 0;

    private ReadmeTest(String page) {
        this.page = page;
    }

    public static void main(String[] args) throws IOException {
        ReadmeTest test = new ReadmeTest(Files.readString(README, StandardCharsets.UTF_8));
        test.readExample();
        test.example();
        test.everyCallIsNamed();
        test.everyTestIsNamed();
        test.check.end();
    }

    private void readExample() {
        Matcher example = Pattern.compile(EXAMPLE, Pattern.DOTALL).matcher(page);
        check.holds("there is an example", example.find());
        for (String line : example.group(1).split("\n")) {
            Matcher answered = ANSWERED.matcher(line);
            Matcher typing = TYPED.matcher(line);
            if (answered.matches()) {
                calls.add(answered.group(1));
                answers.add(Integer.parseInt(answered.group(2)));
            } else if (typing.matches()) {
                typed = typing.group(1);
            }
        }
    }

    /** The calls stand here once more, in their order: a call that only the page has, or only this, is told. */
    private void example() {
        WindowMatches x = new WindowMatches();
        Check.write(x, typed);
        due("x.addPattern();", x.addPattern());
        due("x.event('a', 1, 5);", x.event('a', 1, 5));
        due("x.event('c', 2, 9);", x.event('c', 2, 9));
        due("x.pattern(0, 4);", x.pattern(0, 4));
        due("x.match(0, 0, 1);", x.match(0, 0, 1));
        due("x.pattern(0, 5);", x.pattern(0, 5));
        due("x.ifEvent('b', 0, 7);", x.ifEvent('b', 0, 7));
        due("x.event('h', 0, 29);", x.event('h', 0, 29));
        due("x.count(4);", x.count(4));
        due("x.pattern(0, 5);", x.pattern(0, 5));
        due("x.event('b', 0, 8);", x.event('b', 0, 8));
        due("x.undo();", x.undo());
        due("x.pattern(0, 5);", x.pattern(0, 5));
        due("x.clearText();", x.clearText());
        due("x.type('w');", x.type('w'));
        due("x.type('o');", x.type('o'));
        due("x.addPattern();", x.addPattern());
        check.due("answers in the example", calls.size(), told);
    }

    private void due(String call, int got) {
        boolean isThere = told < calls.size() && calls.get(told).equals(call);
        check.holds("call " + told + " of the example is " + call, isThere);
        if (isThere) {
            check.due("the example's " + call, got, answers.get(told));
        }
        told++;
    }

    private void everyCallIsNamed() {
        for (Method method : WindowMatches.class.getDeclaredMethods()) {
            if (Modifier.isPublic(method.getModifiers())) {
                check.holds("the page names " + method.getName(), page.contains("`" + method.getName() + "("));
            }
        }
    }

    private void everyTestIsNamed() throws IOException {
        try (Stream<Path> files = Files.list(TESTS)) {
            for (Path file : files.toList()) {
                String name = file.getFileName().toString().replace(".java", "");
                check.holds("the page names " + name, !name.endsWith("Test") || page.contains("`" + name + "`"));
            }
        }
    }
}
