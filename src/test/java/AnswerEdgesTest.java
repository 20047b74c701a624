/** A test for each sentence that names an edge of a call that tells of matches. Promises 13, 16, 17 and 18. */
public final class AnswerEdgesTest {
    private static final int UNKNOWN = -1;
    private static final int BAD_VALUE = -2;
    private static final int TOO_LATE = -4;
    private static final int NONE = -5;
    // Numbers that are in range again if only some of their bits are looked at, or if they are turned round.
    private static final int[] FAR = {Integer.MIN_VALUE, Integer.MIN_VALUE + 1, -65536, -256, -9, -3, -2, -1,
        Integer.MAX_VALUE - 1, Integer.MAX_VALUE};

    private final Check check = new Check();

    public static void main(String[] args) {
        AnswerEdgesTest test = new AnswerEdgesTest();
        test.rank();
        test.place();
        test.matchChecksInOrder();
        test.patternWhatOfMatches();
        test.matchesOfAnEvent();
        test.inNoMatch();
        test.matchesOfAll();
        test.mostMatches();
        test.ifEventRange();
        test.ifEventLate();
        test.ifEventWith24();
        test.ifEventInItsOrder();
        test.ifEventChangesNothing();
        test.countWhat();
        test.countEdges();
        test.check.end();
    }

    private void rank() {
        check.sentence("- `rank`: a rank among its matches, from 0");
        WindowMatches x = Check.with("within 9 a, b", "a0@0 a0@0");
        for (int matches = 0; matches <= 8; matches += 2) {
            for (int i = 0; i < matches; i++) {
                check.due("rank " + i + " of " + matches, x.match(0, i, 0), i * 2 / matches);
            }
            check.due("one more than " + matches, x.match(0, matches, 0), NONE);
            check.due("two more than " + matches, x.match(0, matches + 1, 1), NONE);
            check.due("the greatest of " + matches, x.match(0, Integer.MAX_VALUE, 0), NONE);
            check.due("-1 of " + matches, x.match(0, -1, 0), BAD_VALUE);
            check.due("the least of " + matches, x.match(0, Integer.MIN_VALUE, 0), BAD_VALUE);
            x.event('b', 0, 0);
        }
    }

    private void place() {
        check.sentence("- `place`: a place among its events, from 0");
        String[] texts = {"a, a", "a, no b, a", "a, a, a", "a, no b, a, no c, a", "a, a, a, a",
            "a, no b, a, no c, a, no d, a"};
        int[] places = {2, 2, 3, 3, 4, 4};
        for (int i = 0; i < texts.length; i++) {
            WindowMatches x = Check.with("within 9 " + texts[i], "a0@0 a0@0 a0@0 a0@0");
            for (int place = 0; place < places[i]; place++) {
                check.due(texts[i] + ": place " + place, x.match(0, 0, place), place);
            }
            for (int place = places[i]; place < 9; place++) {
                check.due(texts[i] + ": place " + place, x.match(0, 0, place), BAD_VALUE);
            }
            for (int place : FAR) {
                check.due(texts[i] + ": place " + place, x.match(0, 0, place), BAD_VALUE);
            }
        }
    }

    private void matchChecksInOrder() {
        check.sentence("Returns the number of the event; UNKNOWN; BAD_VALUE (rank is negative, or place is none");
        WindowMatches x = new WindowMatches();
        check.due("unknown ahead of bad, without patterns", x.match(0, -1, -1), UNKNOWN);
        Check.add(x, "within 9 a, no c, b");
        for (int pattern : FAR) {
            check.due("unknown ahead of bad, " + pattern, x.match(pattern, -1, 2), UNKNOWN);
        }
        check.due("the one behind the last", x.match(1, 0, 0), UNKNOWN);
        check.due("a bad rank ahead of none", x.match(0, -1, 0), BAD_VALUE);
        check.due("a bad place ahead of none", x.match(0, 0, 2), BAD_VALUE);
        check.due("a bad place below ahead of none", x.match(0, 5, -1), BAD_VALUE);
        check.due("none", x.match(0, 0, 1), NONE);
        check.due("none changes nothing", x.count(7), 1);
    }

    /** Each number is asked for at once, when something has changed and no other question was asked since. */
    private void patternWhatOfMatches() {
        check.sentence("4 for its matches, 5 for the sure ones, 6 for its branches under way");
        for (int what = 4; what <= 6; what++) {
            WindowMatches x = Check.with("within 10 a, b", "a0@0");
            Check.add(x, "within 1 h, h");
            check.due("at first " + what, x.pattern(0, what), what == 6 ? 1 : 0);
            check.due("of the other one " + what, x.pattern(1, what), 0);
            Check.send(x, "b0@3 b0@4 a0@5 a0@6 a0@7 b0@10");
            x.setLateness(6);
            check.due("with more events " + what, x.pattern(0, what), new int[] {6, 2, 4}[what - 4]);
            x.setWindow(0, 9);
            check.due("with a window of 9: " + what, x.pattern(0, what), new int[] {5, 2, 3}[what - 4]);
            x.setWindow(0, 3);
            check.due("with a window of 3: " + what, x.pattern(0, what), new int[] {2, 1, 1}[what - 4]);
            check.due("of the other one again " + what, x.pattern(1, what), 0);
        }
    }

    private void matchesOfAnEvent() {
        check.sentence("4 for in how many matches of all patterns it is");
        WindowMatches x = new WindowMatches();
        Check.send(x, "a0@0 a0@0 a0@0 a0@0");
        check.due("without patterns", x.eventOf(0, 4), 0);
        int[] due = {3, 6, 7, 10};
        String[] texts = {"a, a", "a, a, a", "a, a, a, a", "a, a"};
        for (int i = 0; i < texts.length; i++) {
            Check.add(x, "within 9 " + texts[i]);
            for (int event = 0; event < 4; event++) {
                check.due("event " + event + " with " + texts[i], x.eventOf(event, 4), due[i]);
            }
        }
        Check.send(x, "b0@0");
        check.due("one of another kind", x.eventOf(4, 4), 0);
    }

    private void inNoMatch() {
        check.sentence("6 for events that are in no match");
        WindowMatches x = new WindowMatches();
        check.due("without events", x.count(6), 0);
        Check.send(x, "a0@0 c0@0");
        check.due("without patterns", x.count(6), 2);
        Check.add(x, "within 9 a, b");
        check.due("without matches", x.count(6), 2);
        Check.send(x, "b0@0");
        check.due("two are in one", x.count(6), 1);
        Check.add(x, "within 9 c, b");
        check.due("all are in one", x.count(6), 0);
        x.dropPattern(0);
        check.due("one is in none again", x.count(6), 1);
        for (int i = 3; i < 24; i++) {
            x.event('d', 0, 0);
        }
        check.due("of 24", x.count(6), 22);
    }

    private void matchesOfAll() {
        check.sentence("2 for matches of all patterns");
        WindowMatches x = new WindowMatches();
        check.due("without events and patterns", x.count(2), 0);
        for (int i = 0; i < 4; i++) {
            Check.add(x, "within 9 a, b");
            check.due("without events", x.count(2), 0);
        }
        Check.send(x, "a0@0 b0@0");
        for (int left = 4; left > 0; left--) {
            check.due("each pattern counts", x.count(2), left);
            x.dropPattern(0);
        }
        check.due("without patterns", x.count(2), 0);
    }

    private void mostMatches() {
        check.sentence("At most 24 events are kept");
        WindowMatches x = new WindowMatches();
        for (int i = 0; i < 4; i++) {
            Check.add(x, "within 1 rising a, a, a, a");
        }
        for (int i = 0; i < 24; i++) {
            x.event('a', i, i < 12 ? 0 : 1);
        }
        check.due("matches of all", x.count(2), 42504);
        check.due("matches of the fourth", x.pattern(3, 4), 10626);
        check.due("sure ones: the watermark is 0", x.pattern(3, 5), 495);
        check.due("branches", x.pattern(3, 6), 2324);
        check.due("matches of the first event", x.eventOf(0, 4), 7084);
        check.due("matches of the last event", x.eventOf(23, 4), 7084);
        check.due("the last match", x.match(3, 10625, 0), 20);
        check.due("its last event", x.match(3, 10625, 3), 23);
        check.due("one rank more", x.match(3, 10626, 0), NONE);
        check.due("events in none", x.count(6), 0);
        check.due("with a 25th", x.ifEvent('a', 99, 1), 50600);
        check.due("with a 25th that does not rise", x.ifEvent('a', 23, 1), 42504 + 4 * 1771);
        check.due("with one beyond the window", x.ifEvent('a', 99, 2), 42504 + 4 * 220);
    }

    private void ifEventRange() {
        check.sentence("Returns how many; BAD_VALUE; TOO_LATE.");
        WindowMatches x = Check.with("within 9 a, b", "a0@1000");
        x.setLateness(0);
        check.due("a bad kind, too late", x.ifEvent('i', 0, 999), BAD_VALUE);
        check.due("a bad kind", x.ifEvent('`', 0, 1000), BAD_VALUE);
        check.due("a bad value, too late", x.ifEvent('b', 100, 999), BAD_VALUE);
        check.due("a bad value", x.ifEvent('b', -1, 1000), BAD_VALUE);
        check.due("a bad time ahead of too late", x.ifEvent('b', 0, -1), BAD_VALUE);
        check.due("a bad time", x.ifEvent('b', 0, 10000), BAD_VALUE);
        check.due("too late", x.ifEvent('b', 0, 999), TOO_LATE);
        check.due("how many", x.ifEvent('b', 99, 1000), 1);
        check.due("none", x.ifEvent('b', 99, 9999), 0);
    }

    private void ifEventLate() {
        check.sentence("one whose time is less than the newest time less the lateness is too late");
        WindowMatches x = Check.with("within 500 a, b", "b0@600");
        for (int lateness : new int[] {0, 1, 20, 500}) {
            x.setLateness(lateness);
            check.due("late by more than " + lateness, x.ifEvent('a', 0, 599 - lateness), TOO_LATE);
            check.due("late by " + lateness, x.ifEvent('a', 0, 600 - lateness), lateness == 0 ? 0 : 1);
        }
    }

    private void ifEventWith24() {
        check.sentence("if an event came (also if there are 24)");
        WindowMatches x = new WindowMatches();
        Check.add(x, "within 9 a, no c, b");
        for (int i = 0; i < 12; i++) {
            x.event('a', 0, 10);
            x.event('b', 0, 12);
        }
        check.due("as it is", x.ifEvent('d', 0, 11), 144);
        check.due("one a more", x.ifEvent('a', 0, 10), 156);
        check.due("one a more behind all", x.ifEvent('a', 0, 12), 144);
        check.due("one b more", x.ifEvent('b', 0, 10), 156);
        check.due("one b ahead of all", x.ifEvent('b', 0, 9), 144);
        check.due("a c between", x.ifEvent('c', 0, 11), 0);
        check.due("a c behind", x.ifEvent('c', 0, 12), 144);
        check.due("a c ahead", x.ifEvent('c', 0, 9), 144);
        check.due("24 events still", x.count(0), 24);
        check.due("144 matches still", x.count(2), 144);
        x.undo();
        check.due("23 events: one b more", x.ifEvent('b', 0, 12), 144);
    }

    private void ifEventInItsOrder() {
        check.sentence("Tells how many matches of all patterns there would be");
        WindowMatches x = new WindowMatches();
        check.due("without patterns", x.ifEvent('a', 0, 0), 0);
        Check.add(x, "within 10 a, no b, c");
        check.due("without events", x.ifEvent('a', 0, 0), 0);
        Check.add(x, "within 10 rising a, c");
        Check.send(x, "a5@10 c6@20");
        check.due("both have one", x.count(2), 2);
        check.due("a b ahead of the time of a", x.ifEvent('b', 0, 9), 2);
        check.due("a b at the time of a, behind it", x.ifEvent('b', 0, 10), 1);
        check.due("a b at the time of c, behind it", x.ifEvent('b', 0, 20), 2);
        check.due("a c at the edge of the window", x.ifEvent('c', 6, 20), 4);
        check.due("a c beyond the window", x.ifEvent('c', 6, 21), 2);
        check.due("a c that does not rise", x.ifEvent('c', 5, 20), 3);
        check.due("an a of the window's edge", x.ifEvent('a', 5, 10), 4);
        check.due("an a behind c", x.ifEvent('a', 5, 20), 2);
        check.due("an a that is not less", x.ifEvent('a', 6, 10), 3);
    }

    private void ifEventChangesNothing() {
        check.sentence("Tells how many matches of all patterns there would be, if an event came");
        WindowMatches x = Check.with("within 10 a, no b, c", "a5@10 c6@20 d7@15");
        String told = Check.told(x);
        check.due("a newer one", x.ifEvent('c', 0, 9999), 1);
        check.due("a late one", x.ifEvent('b', 0, 11), 0);
        check.same("then it", Check.told(x), told);
        check.due("undo", x.undo(), 3);
        check.due("of the last event", x.count(0), 2);
    }

    private void countWhat() {
        check.sentence("Returns the number; BAD_VALUE.");
        WindowMatches x = Check.with("within 9 a, b", "a0@0");
        check.due("what -1", x.count(-1), BAD_VALUE);
        check.due("what 8", x.count(8), 13);
        check.due("what 9", x.count(9), BAD_VALUE);
        for (int what : FAR) {
            check.due("what " + what, x.count(what), BAD_VALUE);
        }
    }

    private void countEdges() {
        check.sentence("- `what`: 0 for events, 1 for patterns, 2 for matches of all patterns, 3 for the newest time");
        WindowMatches x = new WindowMatches();
        check.dueCounts("new", x, 0, 0, 0, 0, 0, 20, 0, 0, 0);
        for (int i = 0; i < 24; i++) {
            x.event('a', 0, 9999);
        }
        check.dueCounts("24 events", x, 24, 0, 0, 9999, 9979, 20, 24, 4, 0);
        x.setLateness(0);
        for (int i = 0; i < 4; i++) {
            Check.add(x, "within 1 a, a");
        }
        while (x.count(8) < 80) {
            x.type(' ');
        }
        check.dueCounts("the greatest", x, 24, 4, 1104, 9999, 9999, 0, 0, 4, 80);
        x.forget(9999);
        x.setLateness(500);
        check.dueCounts("the greatest lateness", x, 24, 4, 1104, 9999, 9499, 500, 0, 4, 80);
    }
}
