/** A test for each sentence that names an edge: of patterns and their steps. Promises 5, 6, 7, 15 and half of 14. */
public final class PatternEdgesTest {
    private static final int UNKNOWN = -1;
    private static final int BAD_VALUE = -2;
    private static final int FULL = -3;
    private static final int NONE = -5;
    // Numbers that are in range again if only some of their bits are looked at, or if they are turned round.
    private static final int[] FAR = {Integer.MIN_VALUE, Integer.MIN_VALUE + 1, -65536, -1000, -256, -4, -2, -1, 8,
        256, 65536, 65537, 1 << 24, Integer.MAX_VALUE - 1, Integer.MAX_VALUE};

    private final Check check = new Check();

    public static void main(String[] args) {
        PatternEdgesTest test = new PatternEdgesTest();
        test.atMostFour();
        test.fewestAndMost();
        test.firstAndLast();
        test.rules();
        test.theTextStays();
        test.addPatternChecksInOrder();
        test.dropPatternRange();
        test.laterOnesHaveOneLess();
        test.howManyAreLeft();
        test.windowRange();
        test.windowOfEach();
        test.setWindowChecksInOrder();
        test.patternNumbers();
        test.patternWhat();
        test.stepOfIt();
        test.stepsOfAnotherPattern();
        test.absentOrNot();
        test.stepWhat();
        test.check.end();
    }

    private void atMostFour() {
        check.sentence("There are at most 4 patterns, numbered from 0.");
        WindowMatches x = new WindowMatches();
        for (int i = 0; i < 4; i++) {
            check.due("patterns", x.count(1), i);
            check.due("pattern " + i, Check.add(x, "within 1" + i + " a, b"), i);
        }
        check.due("the fifth", Check.add(x, "within 14 a, b"), FULL);
        check.due("patterns with the fifth", x.count(1), 4);
        check.due("the window of 3", x.pattern(3, 0), 13);
        check.due("no pattern 4", x.pattern(4, 0), UNKNOWN);
        check.due("drop one", x.dropPattern(0), 3);
        check.due("room for one", x.addPattern(), 3);
        check.due("its window", x.pattern(3, 0), 14);
        check.due("and for no more", x.addPattern(), FULL);
        check.due("undo", x.undo(), 3);
        check.due("room again", x.addPattern(), 3);
    }

    private void fewestAndMost() {
        check.sentence("A pattern has a window (1 to 1000), a rule, and 2 to 7 steps, at most 4 of them plain.");
        dueMade("within 1 a, b", 1, 0, 2, 2);
        dueMade("within 1000 rising h, h", 1000, 1, 2, 2);
        dueMade("within 999 alike a, no b, c", 999, 2, 3, 2);
        dueMade("within 9 a, a, a", 9, 0, 3, 3);
        dueMade("within 10 a, a, a, a", 10, 0, 4, 4);
        dueMade("within 99 a, no a, a, a", 99, 0, 4, 3);
        dueMade("within 100 a, no a, a, no a, a", 100, 0, 5, 3);
        dueMade("within 101 a, a, no a, a, no a, a", 101, 0, 6, 4);
        dueMade("within 1000 rising a, no b, c, no d, e, no f, g", 1000, 1, 7, 4);
        dueFault("within 1 a", 10);
        dueFault("within 0 a, b", 7);
        dueFault("within 1001 a, b", 10);
        dueFault("within 1 a, b, c, d, e", 21);
        dueFault("within 1 a, no b, c, no d, e, no f, g, no h, a", 45);
    }

    private void dueMade(String text, int... due) {
        WindowMatches x = new WindowMatches();
        check.due(text, Check.add(x, text), 0);
        for (int what = 0; what < due.length; what++) {
            check.due(text + ": " + what, x.pattern(0, what), due[what]);
        }
    }

    private void dueFault(String text, int fault) {
        WindowMatches x = new WindowMatches();
        check.due(text, Check.add(x, text), -100 - fault);
        check.due("patterns with " + text, x.count(1), 0);
    }

    private void firstAndLast() {
        check.sentence("The first step and the last step are plain ones; no two absent steps stand side by side.");
        dueFault("within 1 no a, b", 9);
        dueFault("within 1 alike no a, b", 15);
        dueFault("within 1 a, no b", 16);
        dueFault("within 1 a, b, no c", 19);
        dueFault("within 1 a, no b, no c, d", 18);
        dueFault("within 1 a, b, no c, no c, d", 21);
        dueMade("within 1 a, no b, c, no d, e", 1, 0, 5, 3);
    }

    private void rules() {
        check.sentence("The rule is one of these: 0 none; 1 the values rise:");
        dueMade("within 5 a, b", 5, 0);
        dueMade("within 5 rising a, b", 5, 1);
        dueMade("within 5 alike a, b", 5, 2);
        WindowMatches x = new WindowMatches();
        Check.add(x, "within 5 alike a, b");
        Check.add(x, "within 5 a, b");
        Check.add(x, "within 5 rising a, b");
        check.due("alike ahead of none", x.pattern(0, 1), 2);
        check.due("none behind alike", x.pattern(1, 1), 0);
        check.due("rising behind none", x.pattern(2, 1), 1);
    }

    private void theTextStays() {
        check.sentence("Adds the pattern of the text, which stays.");
        WindowMatches x = new WindowMatches();
        check.due("first", Check.add(x, "within 5 a, b"), 0);
        check.due("its length", x.count(8), 13);
        check.due("the same again", x.addPattern(), 1);
        x.type(',');
        check.due("with a comma more", x.addPattern(), -114);
        check.due("the length of a faulty one", x.count(8), 14);
        check.due("once more", x.addPattern(), -114);
        x.type(' ');
        x.type('c');
        check.due("with a step more", x.addPattern(), 2);
        check.due("its steps", x.pattern(2, 2), 3);
        check.due("those of the first one", x.pattern(0, 2), 2);
        x.addPattern();
        check.due("full", x.addPattern(), FULL);
        check.due("the length of a refused one", x.count(8), 16);
    }

    private void addPatternChecksInOrder() {
        check.sentence("Returns its number; -100 minus the fault of the text if it has one (which is an error); FULL");
        WindowMatches x = new WindowMatches();
        check.due("the least fault", x.addPattern(), -100);
        for (int i = 0; i < 4; i++) {
            check.due("its number", Check.add(x, "within 5 a, b"), i);
        }
        check.due("full", x.addPattern(), FULL);
        check.due("a fault at the end ahead of full", Check.add(x, "within 5 a, "), -112);
        check.due("a fault ahead of full", Check.add(x, "x"), -100);
        x.clearText();
        check.due("the empty text ahead of full", x.addPattern(), -100);
        check.due("states", x.count(7), 4);
        String longest = "within 1000 rising a, no b, c, no d, e, no f, g, no h, ";
        check.due("the greatest fault", Check.add(x, longest), -100 - longest.length());
        check.due("and with more", Check.add(x, longest + "a"), -100 - longest.length());
    }

    private void dropPatternRange() {
        check.sentence("Removes a pattern; later ones have one number less. This is an act.");
        for (int patterns = 0; patterns <= 4; patterns++) {
            WindowMatches x = new WindowMatches();
            for (int i = 0; i < patterns; i++) {
                Check.add(x, "within 5 a, b");
            }
            for (int number : FAR) {
                check.due("drop " + number + " of " + patterns, x.dropPattern(number), UNKNOWN);
            }
            check.due("drop one behind " + patterns, x.dropPattern(patterns), UNKNOWN);
            check.due("patterns", x.count(1), patterns);
            check.due("states", x.count(7), patterns);
            if (patterns > 0) {
                check.due("the last of " + patterns, x.dropPattern(patterns - 1), patterns - 1);
                check.due("an act", x.count(7), Math.min(4, patterns + 1));
            }
        }
    }

    private void laterOnesHaveOneLess() {
        check.sentence("later ones have one number less");
        for (int dropped = 0; dropped < 4; dropped++) {
            WindowMatches x = fourPatterns();
            check.due("drop " + dropped, x.dropPattern(dropped), 3);
            for (int i = 0; i < 3; i++) {
                int was = i < dropped ? i : i + 1;
                check.due("the window of " + i, x.pattern(i, 0), was + 1);
                check.due("the rule of " + i, x.pattern(i, 1), was % 3);
                check.due("the steps of " + i, x.pattern(i, 2), new int[] {2, 7, 3, 4}[was]);
                check.due("the plain steps of " + i, x.pattern(i, 3), new int[] {2, 4, 2, 4}[was]);
                check.due("the last kind of " + i, x.step(i, x.pattern(i, 2) - 1, 0), "bgch".charAt(was));
                check.due("the step of 1 of " + i, x.step(i, 1, 1), new int[] {0, 1, 1, 0}[was]);
            }
            check.due("no fourth", x.pattern(3, 0), UNKNOWN);
        }
    }

    private WindowMatches fourPatterns() {
        WindowMatches x = new WindowMatches();
        Check.add(x, "within 1 a, b");
        Check.add(x, "within 2 rising a, no b, c, no d, e, no f, g");
        Check.add(x, "within 3 alike a, no b, c");
        Check.add(x, "within 4 e, f, g, h");
        return x;
    }

    private void howManyAreLeft() {
        check.sentence("Returns how many are left; UNKNOWN.");
        WindowMatches x = fourPatterns();
        for (int left = 3; left >= 0; left--) {
            check.due("the first one", x.dropPattern(0), left);
            check.due("patterns", x.count(1), left);
            check.due("behind the last one", x.dropPattern(left), UNKNOWN);
        }
        check.due("of none", x.dropPattern(0), UNKNOWN);
        check.due("matches of none", x.count(2), 0);
    }

    private void windowRange() {
        check.sentence("- `window`: 1 to 1000");
        for (int window = -300; window <= 2100; window++) {
            window(window, window >= 1 && window <= 1000);
        }
        window(0, false);
        for (int window : new int[] {Integer.MIN_VALUE, -1000, -65535, 65537, 65536 + 500, 1 << 24,
            Integer.MAX_VALUE}) {
            window(window, false);
        }
    }

    private void window(int window, boolean isWindow) {
        WindowMatches x = new WindowMatches();
        Check.add(x, "within 5 a, b");
        check.due("setWindow " + window, x.setWindow(0, window), !isWindow ? BAD_VALUE : window == 5 ? NONE : 5);
        check.due("the window after " + window, x.pattern(0, 0), isWindow ? window : 5);
        check.due("states after " + window, x.count(7), isWindow && window != 5 ? 2 : 1);
    }

    private void windowOfEach() {
        check.sentence("Gives a pattern another window.");
        for (int pattern = 0; pattern < 4; pattern++) {
            WindowMatches x = fourPatterns();
            check.due("setWindow of " + pattern, x.setWindow(pattern, 1000), pattern + 1);
            for (int i = 0; i < 4; i++) {
                check.due("the window of " + i, x.pattern(i, 0), i == pattern ? 1000 : i + 1);
            }
            check.due("no more than four", x.setWindow(4, 1000), UNKNOWN);
        }
    }

    private void setWindowChecksInOrder() {
        check.sentence("Returns the previous one; UNKNOWN; BAD_VALUE; NONE if it is so already.");
        WindowMatches x = new WindowMatches();
        check.due("no pattern", x.setWindow(0, 1), UNKNOWN);
        Check.add(x, "within 5 a, b");
        for (int number : FAR) {
            check.due("pattern " + number, x.setWindow(number, 5), UNKNOWN);
            check.due("pattern " + number + ", a bad window", x.setWindow(number, 0), UNKNOWN);
        }
        check.due("one behind the last, a bad window", x.setWindow(1, 1001), UNKNOWN);
        check.due("below", x.setWindow(0, 0), BAD_VALUE);
        check.due("above", x.setWindow(0, 1001), BAD_VALUE);
        check.due("so already", x.setWindow(0, 5), NONE);
        check.due("the least", x.setWindow(0, 1), 5);
        check.due("the least again", x.setWindow(0, 1), NONE);
        check.due("the greatest", x.setWindow(0, 1000), 1);
        check.due("the greatest again", x.setWindow(0, 1000), NONE);
        check.due("5 again", x.setWindow(0, 5), 1000);
    }

    private void patternNumbers() {
        check.sentence("`UNKNOWN = -1`: There is no such event or pattern.");
        WindowMatches x = new WindowMatches();
        for (int patterns = 0; patterns <= 4; patterns++) {
            for (int i = 0; i < patterns; i++) {
                check.due("pattern " + i + " of " + patterns, x.pattern(i, 0), i + 1);
                check.due("step of " + i, x.step(i, 0, 0), 'a');
                check.due("match of " + i, x.match(i, 0, 0), NONE);
            }
            dueUnknown(x, patterns);
            for (int number : FAR) {
                dueUnknown(x, number);
            }
            Check.add(x, "within " + (patterns + 1) + " a, b");
        }
        x.undo();
        dueUnknown(x, 3);
        x.dropPattern(0);
        dueUnknown(x, 2);
    }

    private void dueUnknown(WindowMatches x, int number) {
        check.due("pattern " + number, x.pattern(number, 0), UNKNOWN);
        check.due("step of " + number, x.step(number, 0, 0), UNKNOWN);
        check.due("match of " + number, x.match(number, 0, 0), UNKNOWN);
    }

    private void patternWhat() {
        check.sentence("- `what`: 0 for its window, 1 for its rule, 2 for its steps, 3 for its plain steps");
        WindowMatches x = new WindowMatches();
        check.due("unknown ahead of bad, without patterns", x.pattern(0, -1), UNKNOWN);
        Check.add(x, "within 7 alike a, no b, c");
        int[] due = {7, 2, 3, 2, 0, 0, 0};
        for (int what = 0; what < due.length; what++) {
            check.due("what " + what, x.pattern(0, what), due[what]);
        }
        check.due("what 7", x.pattern(0, 7), BAD_VALUE);
        for (int what : FAR) {
            check.due("what " + what, x.pattern(0, what), BAD_VALUE);
            check.due("unknown ahead of what " + what, x.pattern(1, what), UNKNOWN);
        }
    }

    private void stepOfIt() {
        check.sentence("- `step`: a step of it, from 0");
        String[] texts = {"a, b", "a, no b, c", "a, b, c, d", "a, no b, c, no d, e", "a, b, no c, d, no e, f",
            "a, no b, c, no d, e, no f, g"};
        for (String text : texts) {
            WindowMatches x = new WindowMatches();
            Check.add(x, "within 5 " + text);
            String[] steps = text.split(", ");
            for (int i = 0; i < steps.length; i++) {
                check.due(text + ": kind of " + i, x.step(0, i, 0), steps[i].charAt(steps[i].length() - 1));
                check.due(text + ": absent " + i, x.step(0, i, 1), steps[i].startsWith("no ") ? 1 : 0);
            }
            for (int what = 0; what <= 1; what++) {
                check.due(text + ": behind the last step", x.step(0, steps.length, what), BAD_VALUE);
                for (int step : FAR) {
                    check.due(text + ": step " + step, x.step(0, step, what), BAD_VALUE);
                }
            }
        }
    }

    private void stepsOfAnotherPattern() {
        check.sentence("Returns the number; UNKNOWN; BAD_VALUE (step or what).");
        WindowMatches x = new WindowMatches();
        Check.add(x, "within 5 a, no b, c, no d, e, no f, g");
        x.dropPattern(0);
        Check.add(x, "within 5 h, h");
        for (int step = 2; step <= 8; step++) {
            check.due("a step of the one that was dropped", x.step(0, step, 0), BAD_VALUE);
        }
        check.due("its own step", x.step(0, 1, 0), 'h');
        check.due("it is plain", x.step(0, 1, 1), 0);
        Check.add(x, "within 5 a, no b, c");
        check.due("a step that the other one has", x.step(0, 2, 0), BAD_VALUE);
        check.due("a step of the other one", x.step(1, 2, 0), 'c');
    }

    private void absentOrNot() {
        check.sentence("A step has a kind, and is plain (one event), or absent");
        WindowMatches x = new WindowMatches();
        Check.add(x, "within 5 a, no a, a, a, no h, h");
        for (int step = 0; step < 6; step++) {
            check.due("step " + step, x.step(0, step, 1), step == 1 || step == 4 ? 1 : 0);
            check.due("kind of " + step, x.step(0, step, 0), step < 4 ? 'a' : 'h');
        }
    }

    private void stepWhat() {
        check.sentence("- `what`: 0 for its kind (the code of the letter), 1 for whether");
        WindowMatches x = new WindowMatches();
        check.due("unknown ahead of a bad step and what", x.step(0, -1, -1), UNKNOWN);
        Check.add(x, "within 5 a, b");
        check.due("what -1", x.step(0, 0, -1), BAD_VALUE);
        check.due("what 2", x.step(0, 1, 2), BAD_VALUE);
        for (int what : FAR) {
            check.due("what " + what, x.step(0, 0, what), BAD_VALUE);
            check.due("a bad step and what " + what, x.step(0, 2, what), BAD_VALUE);
            check.due("unknown ahead of what " + what, x.step(1, 0, what), UNKNOWN);
        }
    }
}
