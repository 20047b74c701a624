import java.io.IOException;
import java.nio.charset.StandardCharsets;
import java.nio.file.Files;
import java.nio.file.Path;

/** Compares answers with those that are due, and makes the calls that most tests begin with. */
final class Check {
    private static final Path DOCUMENT = Path.of("../shared/DOC.md");

    private int right = 0;
    private int wrong = 0;
    private String document = "";
    private String sentence = "";

    /** A call, or some of them, on an object that is given. */
    interface Call {
        int on(WindowMatches x);
    }

    /** The document's words that the next answers are due by: they must stand there so, and are told with a fault. */
    void sentence(String words) {
        sentence = "";
        if (document.isEmpty()) {
            document = read(DOCUMENT);
        }
        holds("the document says \"" + words + "\"", document.contains(words));
        sentence = "\"" + words + "\": ";
    }

    private static String read(Path path) {
        try {
            return Files.readString(path, StandardCharsets.UTF_8);
        } catch (IOException e) {
            System.out.println("there is no " + path);
            return "(no document)";
        }
    }

    void due(String call, int got, int want) {
        if (got == want) {
            right++;
            return;
        }
        wrong++;
        if (wrong <= 50) {
            System.out.println(sentence + call + " answered " + got + ", due is " + want);
        }
    }

    void holds(String what, boolean isSo) {
        due(what, isSo ? 1 : 0, 1);
    }

    void same(String what, String got, String want) {
        if (!got.equals(want)) {
            System.out.println(sentence + what + " tells " + got + ", due is " + want);
        }
        holds(what, got.equals(want));
    }

    boolean hasWrong() {
        return wrong > 0;
    }

    void end() {
        System.out.println(right + " answers as due, " + wrong + " not");
        if (wrong > 0) {
            System.exit(1);
        }
    }

    /** Puts words in place of the text. */
    static void write(WindowMatches x, String words) {
        x.clearText();
        for (int i = 0; i < words.length(); i++) {
            x.type(words.charAt(i));
        }
    }

    static int add(WindowMatches x, String words) {
        write(x, words);
        return x.addPattern();
    }

    /** An object with the greatest lateness, a pattern, and events. */
    static WindowMatches with(String text, String events) {
        WindowMatches x = new WindowMatches();
        x.setLateness(500);
        add(x, text);
        if (!events.isEmpty()) {
            send(x, events);
        }
        return x;
    }

    /** Two patterns, five events, a lateness, a snapshot, a whole text and a history of four. */
    static int fill(WindowMatches x) {
        x.setLateness(30);
        send(x, "a1@40");
        x.keep();
        add(x, "within 10 rising a, no b, c");
        add(x, "within 12 a, c, c");
        send(x, "c5@50 b2@45 a3@44 c4@53");
        return 0;
    }

    static WindowMatches filled() {
        WindowMatches x = new WindowMatches();
        fill(x);
        return x;
    }

    /** Sends events that are told like "a5@10 b6@12": kind, value and time. */
    static void send(WindowMatches x, String events) {
        for (String event : events.split(" ")) {
            int at = event.indexOf('@');
            x.event(event.charAt(0), Integer.parseInt(event.substring(1, at)),
                    Integer.parseInt(event.substring(at + 1)));
        }
    }

    /** The matches of a pattern, told like "0,1 0,2". */
    static String matches(WindowMatches x, int pattern) {
        StringBuilder told = new StringBuilder();
        int places = x.pattern(pattern, 3);
        for (int rank = 0; x.match(pattern, rank, 0) >= 0; rank++) {
            told.append(rank == 0 ? "" : " ");
            for (int place = 0; place < places; place++) {
                told.append(place == 0 ? "" : ",").append(x.match(pattern, rank, place));
            }
        }
        return told.toString();
    }

    void dueMatches(String what, WindowMatches x, int pattern, String want) {
        same(what, matches(x, pattern), want);
    }

    void dueCounts(String when, WindowMatches x, int... want) {
        for (int what = 0; what < want.length; what++) {
            due(when + ": count " + what, x.count(what), want[what]);
        }
    }

    /** All that an object tells, in one text. */
    static String told(WindowMatches x) {
        return x.count(7) + " states; a text of " + x.count(8) + "; " + state(x);
    }

    /** What it tells of its state. That should be a small one: an object is good for 512 calls. */
    static String state(WindowMatches x) {
        StringBuilder told = new StringBuilder("counts");
        for (int what = 0; what <= 6; what++) {
            told.append(' ').append(x.count(what));
        }
        for (int event = 0; event < x.count(0); event++) {
            told.append("; event ").append(event);
            for (int what = 0; what <= 4; what++) {
                told.append(' ').append(x.eventOf(event, what));
            }
        }
        for (int pattern = 0; pattern < x.count(1); pattern++) {
            told.append("; pattern ").append(pattern);
            for (int what = 0; what <= 6; what++) {
                told.append(' ').append(x.pattern(pattern, what));
            }
            for (int step = 0; step < x.pattern(pattern, 2); step++) {
                told.append(' ').append(x.step(pattern, step, 0)).append('-').append(x.step(pattern, step, 1));
            }
            told.append(" matches ").append(matches(x, pattern));
        }
        return told.toString();
    }
}
