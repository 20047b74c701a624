import java.util.ArrayList;
import java.util.List;
import java.util.Random;

/** Runs of random calls, always the same ones, on the program and on the slow model: promises 1 to 18. */
public final class ModelRunsTest {
    private static final int RUNS = 300;
    private static final int CALLS = 512;

    private final Check check = new Check();
    private final int run;
    private final Random random;
    private final int kinds;
    private final int values;
    private final int pace;
    private final WindowMatches x = new WindowMatches();
    private final Model model = new Model();
    private Model.Made written = null;
    private int fault = 0;

    private ModelRunsTest(int run) {
        this.run = run;
        random = new Random(run);
        kinds = 1 + random.nextInt(5);
        values = 1 + random.nextInt(6);
        pace = 1 + random.nextInt(15);
    }

    public static void main(String[] args) {
        int wrongRuns = 0;
        for (int run = 0; run < RUNS; run++) {
            ModelRunsTest test = new ModelRunsTest(run);
            int calls = 0;
            while (calls < CALLS - 90) {
                calls += test.call();
            }
            wrongRuns += test.check.hasWrong() ? 1 : 0;
        }
        System.out.println(RUNS - wrongRuns + " runs as due, " + wrongRuns + " not");
        if (wrongRuns > 0) {
            System.exit(1);
        }
    }

    private int call() {
        int kind = random.nextInt(100);
        if (kind < 30) {
            event();
        } else if (kind < 33) {
            int time = rarelyWrong(model.now.newest() - 40 + random.nextInt(30));
            due("forget " + time, x.forget(time), model.forget(time));
        } else if (kind < 36) {
            int ticks = rarelyWrong(random.nextInt(40));
            due("setLateness " + ticks, x.setLateness(ticks), model.setLateness(ticks));
        } else if (kind < 39) {
            return write();
        } else if (kind < 44) {
            due("addPattern", x.addPattern(), model.addPattern(written, fault));
        } else if (kind < 45) {
            int pattern = patternNumber();
            due("dropPattern " + pattern, x.dropPattern(pattern), model.dropPattern(pattern));
        } else if (kind < 48) {
            int pattern = patternNumber();
            int window = rarelyWrong(1 + random.nextInt(60));
            due("setWindow " + pattern + " " + window, x.setWindow(pattern, window), model.setWindow(pattern, window));
        } else if (kind < 54) {
            history();
        } else {
            ask();
        }
        return 1;
    }

    private void event() {
        char kind = kind();
        int value = rarelyWrong(random.nextInt(values));
        int time = time();
        due("event " + kind + " " + value + " " + time, x.event(kind, value, time), model.event(kind, value, time));
    }

    private void history() {
        int which = random.nextInt(3);
        if (which == 0) {
            due("undo", x.undo(), model.undo());
        } else if (which == 1) {
            due("keep", x.keep(), model.keep());
        } else {
            due("restore", x.restore(), model.restore());
        }
    }

    private void ask() {
        int which = random.nextInt(6);
        int event = random.nextInt(27) - 1;
        int pattern = patternNumber();
        int what = random.nextInt(11) - 1;
        int step = random.nextInt(10) - 1;
        if (which == 0) {
            due("eventOf " + event + " " + what, x.eventOf(event, what), model.eventOf(event, what));
        } else if (which == 1) {
            due("pattern " + pattern + " " + what, x.pattern(pattern, what), model.pattern(pattern, what));
        } else if (which == 2) {
            due("step " + pattern + " " + step + " " + what, x.step(pattern, step, what),
                    model.step(pattern, step, what));
        } else if (which == 3) {
            int rank = random.nextInt(1 + random.nextInt(100)) - 1;
            int place = random.nextInt(6) - 1;
            due("match " + pattern + " " + rank + " " + place, x.match(pattern, rank, place),
                    model.match(pattern, rank, place));
        } else if (which == 4) {
            char kind = kind();
            int value = rarelyWrong(random.nextInt(values));
            int time = time();
            due("ifEvent " + kind + " " + value + " " + time, x.ifEvent(kind, value, time),
                    model.ifEvent(kind, value, time));
        } else {
            due("count " + what, x.count(what), model.count(what));
        }
    }

    /** Writes a pattern, now and then one that ends too early, and tells the model what was written. */
    private int write() {
        int window = 1 + random.nextInt(80);
        int rule = random.nextInt(3);
        List<Model.Step> steps = new ArrayList<>();
        StringBuilder text = new StringBuilder("within ").append(window).append(' ');
        text.append(new String[] {"", "rising ", "alike "}[rule]);
        int plain = 2 + random.nextInt(3);
        for (int i = 0; i < plain; i++) {
            if (i > 0 && random.nextInt(3) == 0) {
                char absent = (char) ('a' + random.nextInt(kinds));
                steps.add(new Model.Step(absent, true));
                text.append(", no ").append(absent);
            }
            char kind = (char) ('a' + random.nextInt(kinds));
            steps.add(new Model.Step(kind, false));
            text.append(i > 0 ? ", " : "").append(kind);
        }
        written = new Model.Made(window, rule, steps);
        if (random.nextInt(10) == 0) {
            text.append(", ");
            written = null;
        }
        fault = text.length();
        due("clearText", x.clearText(), model.text.length());
        model.text = text.toString();
        for (int i = 0; i < text.length(); i++) {
            due("type", x.type(text.charAt(i)), i + 1);
        }
        return 1 + text.length();
    }

    private int patternNumber() {
        return random.nextInt(12) == 0 ? random.nextInt(7) - 1 : random.nextInt(1 + model.now.patterns().size());
    }

    private char kind() {
        return random.nextInt(60) == 0 ? (char) random.nextInt(300) : (char) ('a' + random.nextInt(kinds));
    }

    private int time() {
        return rarelyWrong(Math.max(0, model.now.newest() + random.nextInt(3 * pace) - 2 * pace));
    }

    private int rarelyWrong(int number) {
        int[] wrong = {-1, 100, 500, 501, 1000, 1001, Integer.MIN_VALUE, Integer.MAX_VALUE, -number};
        return random.nextInt(50) == 0 ? wrong[random.nextInt(wrong.length)] : number;
    }

    private void due(String call, int got, int want) {
        check.due("run " + run + ": " + call, got, want);
    }
}
