/** Compares answers with those that are due, and makes the calls that most tests begin with. */
final class Check {
    private int right = 0;
    private int wrong = 0;

    void due(String call, int got, int want) {
        if (got == want) {
            right++;
            return;
        }
        wrong++;
        if (wrong <= 50) {
            System.out.println(call + " answered " + got + ", due is " + want);
        }
    }

    void holds(String what, boolean isSo) {
        due(what, isSo ? 1 : 0, 1);
    }

    boolean hasWrong() {
        return wrong > 0;
    }

    void end() {
        System.out.println(right + " answers as due, " + wrong + " not");
        if (wrong > 0) {
            System.exit(1);
        }
    }

    /** Puts words in place of the text. */
    static void write(WindowMatches x, String words) {
        x.clearText();
        for (int i = 0; i < words.length(); i++) {
            x.type(words.charAt(i));
        }
    }

    static int add(WindowMatches x, String words) {
        write(x, words);
        return x.addPattern();
    }

    /** Sends events that are told like "a5@10 b6@12": kind, value and time. */
    static void send(WindowMatches x, String events) {
        for (String event : events.split(" ")) {
            int at = event.indexOf('@');
            x.event(event.charAt(0), Integer.parseInt(event.substring(1, at)),
                    Integer.parseInt(event.substring(at + 1)));
        }
    }

    /** The matches of a pattern, told like "0,1 0,2". */
    static String matches(WindowMatches x, int pattern) {
        StringBuilder told = new StringBuilder();
        int places = x.pattern(pattern, 3);
        for (int rank = 0; x.match(pattern, rank, 0) >= 0; rank++) {
            told.append(rank == 0 ? "" : " ");
            for (int place = 0; place < places; place++) {
                told.append(place == 0 ? "" : ",").append(x.match(pattern, rank, place));
            }
        }
        return told.toString();
    }

    void dueMatches(String what, WindowMatches x, int pattern, String want) {
        String got = matches(x, pattern);
        if (!got.equals(want)) {
            System.out.println(what + ": matches are " + got + ", due are " + want);
        }
        holds(what, got.equals(want));
    }
}
