/** A test for each sentence that names an edge: of matches, sure ones and branches. Promises 14 and 16. */
public final class MatchEdgesTest {
    private static final int[] WINDOWS = {1, 2, 10, 999, 1000};

    private final Check check = new Check();

    public static void main(String[] args) {
        MatchEdgesTest test = new MatchEdgesTest();
        test.fewerEventsThanSteps();
        test.othersBetween();
        test.oneBehindTheOther();
        test.kindsOfSteps();
        test.windowEdge();
        test.windowFromFirstToLast();
        test.farApart();
        test.absentOfAnyValue();
        test.absentBetween();
        test.absentAtEachStep();
        test.absentOfANeighboursKind();
        test.absentInTheOrder();
        test.valuesRise();
        test.valuesAreAlike();
        test.noRule();
        test.sureEdge();
        test.sureAtZero();
        test.matchesInOrder();
        test.branchSizes();
        test.branchWindowEdge();
        test.branchOfForgottenNewest();
        test.branchAbsent();
        test.branchRule();
        test.check.end();
    }

    private void dueMatches(String text, String events, String want) {
        check.dueMatches(text + " in " + events, Check.with(text, events), 0, want);
    }

    private void fewerEventsThanSteps() {
        check.sentence("A match of a pattern is a choice of as many events as it has plain steps");
        dueMatches("within 5 a, a", "", "");
        dueMatches("within 5 a, a", "a0@1", "");
        dueMatches("within 5 a, a", "a0@1 a0@1", "0,1");
        dueMatches("within 5 a, a, a", "a0@1 a0@1", "");
        dueMatches("within 5 a, a, a", "a0@1 a0@1 a0@1", "0,1,2");
        dueMatches("within 5 a, a, a, a", "a0@1 a0@1 a0@1", "");
        dueMatches("within 5 a, a, a, a", "a0@1 a0@1 a0@1 a0@1", "0,1,2,3");
        dueMatches("within 5 a, no b, a, no b, a, no b, a", "a0@1 a0@1 a0@1", "");
        dueMatches("within 5 a, no b, a, no b, a, no b, a", "a0@1 a0@1 a0@1 a0@1", "0,1,2,3");
    }

    private void othersBetween() {
        check.sentence("(other events may lie between)");
        WindowMatches x = Check.with("within 5 a, c", "a0@1");
        for (int i = 1; i < 23; i++) {
            x.event('b', i, 1);
        }
        x.event('c', 0, 1);
        check.dueMatches("22 between", x, 0, "0,23");
        check.due("those 22 are in none", x.count(6), 22);
    }

    private void oneBehindTheOther() {
        check.sentence("one behind the other in their order");
        dueMatches("within 5 a, b", "b0@1 a0@1", "");
        dueMatches("within 5 a, b", "a0@1 b0@1", "0,1");
        dueMatches("within 5 a, b", "a0@2 b0@1", "");
        dueMatches("within 5 a, b", "b0@2 a0@1", "1,0");
        dueMatches("within 5 a, b, a", "a0@1 b0@1", "");
        dueMatches("within 5 a, b, a, b", "a0@1 b0@1 b0@1 a0@1", "");
        dueMatches("within 5 a, b, a, b", "a0@1 b0@1 a0@1 b0@1", "0,1,2,3");
    }

    private void kindsOfSteps() {
        check.sentence("the first one is of the kind of the first plain step");
        String kinds = "abcdefgh";
        for (int i = 0; i < kinds.length(); i++) {
            char one = kinds.charAt(i);
            char other = kinds.charAt((i + 1) % 8);
            dueMatches("within 5 " + one + ", " + other, one + "0@1 " + other + "0@1", "0,1");
            dueMatches("within 5 " + one + ", " + other, one + "0@1 " + one + "0@1", "");
            dueMatches("within 5 " + one + ", " + other, other + "0@1 " + other + "0@1", "");
            dueMatches("within 5 " + one + ", no a, " + other, one + "0@1 " + other + "0@1", "0,1");
        }
    }

    private void windowEdge() {
        check.sentence("the time of the last one is at most the window more than that of the first one");
        for (int window : WINDOWS) {
            for (int first : new int[] {0, 1, 9999 - window - 1}) {
                String head = "within " + window + " a, b";
                String a = "a0@" + first + " b0@";
                dueMatches(head, a + first, "0,1");
                dueMatches(head, a + (first + window - 1), "0,1");
                dueMatches(head, a + (first + window), "0,1");
                dueMatches(head, a + (first + window + 1), "");
                dueMatches(head, a + (first + window) + " b0@" + (first + window + 1), "0,1");
            }
        }
    }

    private void windowFromFirstToLast() {
        check.sentence("the time of the last one is at most the window more");
        dueMatches("within 10 a, b, c", "a0@0 b0@5 c0@10", "0,1,2");
        dueMatches("within 10 a, b, c", "a0@0 b0@5 c0@11", "");
        dueMatches("within 10 a, b, c", "a0@0 b0@10 c0@20", "");
        dueMatches("within 10 a, b, c, d", "a0@0 b0@0 c0@10 d0@10", "0,1,2,3");
        dueMatches("within 10 a, b, c, d", "a0@0 b0@1 c0@10 d0@11", "");
        dueMatches("within 10 a, b, c, d", "a0@0 b0@4 c0@8 d0@12", "");
        dueMatches("within 10 a, b", "a0@0 a0@1 a0@2 b0@11", "1,3 2,3");
    }

    private void farApart() {
        check.sentence("the time of the last one is at most the window more than that of the first one");
        dueMatches("within 1 a, b", "a0@0 b0@1 a0@300 b0@301 b0@302 a0@999 b0@1000", "0,1 2,3 5,6");
        dueMatches("within 1000 a, b", "a0@0 b0@1000 a0@9998 b0@9999", "0,1 2,3");
        dueMatches("within 5 a, b", "a0@0 h0@6 a0@12 b0@17", "2,3");
    }

    private void absentOfAnyValue() {
        check.sentence("for each absent step, no event of its kind (whatever its value)");
        for (int value : new int[] {0, 1, 50, 98, 99}) {
            dueMatches("within 5 a, no b, c", "a50@1 b" + value + "@1 c50@1", "");
            dueMatches("within 5 rising a, no b, c", "a50@1 b" + value + "@1 c51@1", "");
            dueMatches("within 5 alike a, no b, c", "a50@1 b" + value + "@1 c50@1", "");
            dueMatches("within 5 a, no b, c", "a50@1 d" + value + "@1 c50@1", "0,2");
        }
    }

    private void absentBetween() {
        check.sentence("lies in the order between the event that was chosen for the step ahead of it");
        dueMatches("within 5 a, no b, c", "b0@1 a0@1 c0@1 b0@1", "1,2");
        dueMatches("within 5 a, no b, c", "a0@1 b0@1 a0@1 c0@1", "2,3");
        dueMatches("within 5 a, no b, c", "a0@1 c0@1 b0@1 c0@1", "0,1");
        dueMatches("within 5 a, no b, c, d", "a0@1 c0@1 b0@1 d0@1", "0,1,3");
        dueMatches("within 5 a, c, no b, d", "a0@1 b0@1 c0@1 d0@1", "0,2,3");
        dueMatches("within 5 a, no b, c, d", "a0@1 b0@1 c0@1 d0@1", "");
        dueMatches("within 5 a, c, no b, d", "a0@1 c0@1 b0@1 d0@1", "");
        dueMatches("within 5 a, no b, c, no d, e", "a0@1 d0@1 c0@1 b0@1 e0@1", "0,2,4");
    }

    private void absentAtEachStep() {
        check.sentence("- for each absent step, no event of its kind");
        String text = "within 5 a, no e, b, no f, c, no g, d";
        dueMatches(text, "a0@1 b0@1 c0@1 d0@1", "0,1,2,3");
        dueMatches(text, "e0@1 a0@1 f0@1 g0@1 b0@1 e0@1 g0@1 c0@1 e0@1 f0@1 d0@1 g0@1", "1,4,7,10");
        dueMatches(text, "a0@1 e0@1 b0@1 c0@1 d0@1", "");
        dueMatches(text, "a0@1 b0@1 f0@1 c0@1 d0@1", "");
        dueMatches(text, "a0@1 b0@1 c0@1 g0@1 d0@1", "");
    }

    private void absentOfANeighboursKind() {
        check.sentence("and the one that was chosen for the step behind it");
        dueMatches("within 5 a, no a, b", "a0@1 b0@1", "0,1");
        dueMatches("within 5 a, no a, b", "a0@1 a0@1 b0@1 b0@1", "1,2 1,3");
        dueMatches("within 5 a, no b, b", "a0@1 b0@1", "0,1");
        dueMatches("within 5 a, no b, b", "a0@1 a0@1 b0@1 b0@1", "0,2 1,2");
        dueMatches("within 5 a, no a, a", "a0@1 a0@1 a0@1", "0,1 1,2");
        dueMatches("within 5 rising a, no b, b", "a5@1 b5@1 b6@1", "");
        dueMatches("within 5 rising a, no b, b", "a5@1 b6@1 b5@1", "0,1");
    }

    private void absentInTheOrder() {
        check.sentence("They are told in the order of their times, of several in that of their numbers.");
        dueMatches("within 5 a, no b, c", "a0@2 c0@3 b0@1", "0,1");
        dueMatches("within 5 a, no b, c", "a0@2 c0@3 b0@2", "");
        dueMatches("within 5 a, no b, c", "a0@2 c0@3 b0@3", "0,1");
        dueMatches("within 5 a, no b, c", "b0@2 a0@2 c0@3", "1,2");
    }

    private void valuesRise() {
        check.sentence("each event of a match has a greater value than the one ahead of it in the match");
        dueMatches("within 5 rising a, a", "a5@1 a4@1", "");
        dueMatches("within 5 rising a, a", "a5@1 a5@1", "");
        dueMatches("within 5 rising a, a", "a5@1 a6@1", "0,1");
        dueMatches("within 5 rising a, a", "a0@1 a99@1", "0,1");
        dueMatches("within 5 rising a, a", "a99@1 a0@1", "");
        dueMatches("within 5 rising a, a, a", "a5@1 a7@1 a6@1", "");
        dueMatches("within 5 rising a, a, a", "a5@1 a7@1 a7@1", "");
        dueMatches("within 5 rising a, a, a", "a5@1 a7@1 a8@1", "0,1,2");
        dueMatches("within 5 rising a, b, a", "a5@1 b9@1 b5@1 b6@1 a7@1", "0,3,4");
        dueMatches("within 5 rising a, a, a, a", "a0@1 a1@1 a2@1 a2@1", "");
        dueMatches("within 5 rising a, a, a, a", "a96@1 a97@1 a98@1 a99@1", "0,1,2,3");
    }

    private void valuesAreAlike() {
        check.sentence("2 the values are alike: all events of a match have the same value");
        dueMatches("within 5 alike a, a", "a5@1 a4@1", "");
        dueMatches("within 5 alike a, a", "a5@1 a6@1", "");
        dueMatches("within 5 alike a, a", "a5@1 a5@1", "0,1");
        dueMatches("within 5 alike a, a", "a0@1 a0@1", "0,1");
        dueMatches("within 5 alike a, a", "a99@1 a99@1", "0,1");
        dueMatches("within 5 alike a, a", "a0@1 a99@1", "");
        dueMatches("within 5 alike a, a, a", "a5@1 a5@1 a6@1", "");
        dueMatches("within 5 alike a, a, a", "a5@1 a6@1 a6@1", "");
        dueMatches("within 5 alike a, a, a, a", "a5@1 a5@1 a6@1 a5@1 a5@1", "0,1,3,4");
    }

    private void noRule() {
        check.sentence("The rule is one of these: 0 none");
        dueMatches("within 5 a, a, a", "a5@1 a5@1 a4@1", "0,1,2");
        dueMatches("within 5 a, a, a", "a99@1 a0@1 a99@1", "0,1,2");
    }

    private void sureEdge() {
        check.sentence("A match is sure if the time of its last event is at most the watermark.");
        for (int lateness : new int[] {0, 1, 20, 500}) {
            WindowMatches x = Check.with("within 10 a, b", "a0@600 b0@610");
            x.setLateness(lateness);
            if (lateness > 0) {
                check.due("as it came, lateness " + lateness, x.pattern(0, 5), 0);
                x.event('h', 0, 610 + lateness - 1);
                check.due("one less, lateness " + lateness, x.pattern(0, 5), 0);
            }
            x.event('h', 0, 610 + lateness);
            check.due("just, lateness " + lateness, x.pattern(0, 5), 1);
            x.event('h', 0, 610 + lateness + 1);
            check.due("one more, lateness " + lateness, x.pattern(0, 5), 1);
        }
        WindowMatches x = Check.with("within 10 a, b", "a0@600 b0@610 b0@611 b0@599 h0@630");
        x.setWindow(0, 11);
        x.setLateness(19);
        check.due("the last of two", x.pattern(0, 5), 2);
        x.setLateness(20);
        check.due("one of two", x.pattern(0, 5), 1);
        x.setLateness(21);
        check.due("none of two", x.pattern(0, 5), 0);
        check.due("both are matches", x.pattern(0, 4), 2);
    }

    private void sureAtZero() {
        check.sentence("but at least 0");
        WindowMatches x = new WindowMatches();
        Check.add(x, "within 1 a, b");
        check.due("no match", x.pattern(0, 5), 0);
        Check.send(x, "a0@0 b0@0");
        check.due("at the watermark 0", x.pattern(0, 5), 1);
        Check.send(x, "b0@1");
        check.due("above the watermark 0", x.pattern(0, 5), 1);
        Check.send(x, "h0@20");
        check.due("a watermark of 0 still", x.pattern(0, 5), 1);
        Check.send(x, "h0@21");
        check.due("a watermark of 1", x.pattern(0, 5), 2);
    }

    private void matchesInOrder() {
        check.sentence("Matches of a pattern are told by the order of their first events, of several by that of");
        dueMatches("within 9 a, a", "a0@3 a0@2 a0@1 a0@0", "3,2 3,1 3,0 2,1 2,0 1,0");
        dueMatches("within 9 a, a", "a0@3 a0@3 a0@3", "0,1 0,2 1,2");
        dueMatches("within 9 a, b, c", "a0@1 a0@0 b0@3 b0@2 c0@5 c0@4",
                "1,3,5 1,3,4 1,2,5 1,2,4 0,3,5 0,3,4 0,2,5 0,2,4");
        dueMatches("within 9 a, b, a, b", "a0@0 b0@0 a0@0 b0@0 a0@0 b0@0",
                "0,1,2,3 0,1,2,5 0,1,4,5 0,3,4,5 2,3,4,5");
    }

    private void dueBranches(String text, String events, int want) {
        check.due("branches of " + text + " in " + events, Check.with(text, events).pattern(0, 6), want);
    }

    private void branchSizes() {
        check.sentence("A branch under way is a choice of one event or more, but fewer than plain steps");
        dueBranches("within 9 a, a", "", 0);
        dueBranches("within 9 a, a", "b0@0", 0);
        dueBranches("within 9 a, a", "a0@0", 1);
        dueBranches("within 9 a, a", "a0@0 a0@0", 2);
        dueBranches("within 9 a, a, a", "a0@0 a0@0 a0@0", 6);
        dueBranches("within 9 a, a, a, a", "a0@0 a0@0 a0@0", 7);
        dueBranches("within 9 a, a, a, a", "a0@0 a0@0 a0@0 a0@0", 14);
        dueBranches("within 9 a, b, c, d", "a0@0 b0@0 c0@0 d0@0", 3);
        dueBranches("within 9 a, b, c, d", "b0@0 c0@0 d0@0", 0);
        dueBranches("within 9 a, b, c, d", "a0@0 c0@0 b0@0", 2);
        dueBranches("within 9 a, no b, c", "a0@0 c0@0", 1);
    }

    private void branchWindowEdge() {
        check.sentence("if the time of its first event and the window are together at least the newest time");
        for (int window : WINDOWS) {
            String head = "within " + window + " a, b, c";
            for (int first : new int[] {0, 1, 9999 - window - 1}) {
                String a = "a0@" + first + " b0@" + first + " h0@";
                dueBranches(head, a + (first + window - 1), 2);
                dueBranches(head, a + (first + window), 2);
                dueBranches(head, a + (first + window + 1), 0);
            }
        }
        dueBranches("within 10 a, b, c", "a0@0 a0@1 b0@9 h0@11", 2);
        dueBranches("within 10 a, b, c", "a0@1 b0@11", 2);
        dueBranches("within 10 a, b, c", "a0@1 b0@12", 0);
    }

    private void branchOfForgottenNewest() {
        check.sentence("also of those that were forgotten since");
        WindowMatches x = Check.with("within 10 a, b", "a0@5 h0@15");
        check.due("the newest at the edge", x.pattern(0, 6), 1);
        x.forget(16);
        check.due("all are forgotten", x.pattern(0, 6), 0);
        x.event('a', 0, 5);
        check.due("at the edge of a forgotten one", x.pattern(0, 6), 1);
        x.event('a', 0, 4);
        check.due("beyond it", x.pattern(0, 6), 1);
        x.event('a', 0, 0);
        x.setWindow(0, 11);
        check.due("a longer window", x.pattern(0, 6), 2);
    }

    private void branchAbsent() {
        check.sentence("(an absent step behind its last event does not matter)");
        dueBranches("within 9 a, no b, c", "a0@0 b0@0", 1);
        dueBranches("within 9 a, no b, c, d", "a0@0 b0@0 c0@0", 1);
        dueBranches("within 9 a, no b, c, d", "a0@0 c0@0 b0@0", 2);
        dueBranches("within 9 a, c, no b, d", "a0@0 c0@0 b0@0", 2);
        dueBranches("within 9 a, c, no b, d, e", "a0@0 c0@0 b0@0 d0@0", 2);
        dueBranches("within 9 a, c, no b, d, e", "a0@0 c0@0 d0@0 b0@0", 3);
        dueBranches("within 9 a, no a, a, a", "a0@0 a0@0 a0@0", 5);
    }

    private void branchRule() {
        check.sentence("that begins a match as far as it goes (by kinds, window, absent steps between them and rule)");
        dueBranches("within 9 rising a, a, a", "a5@0 a5@0", 2);
        dueBranches("within 9 rising a, a, a", "a5@0 a6@0", 3);
        dueBranches("within 9 rising a, a, a", "a5@0 a4@0", 2);
        dueBranches("within 9 alike a, a, a", "a5@0 a5@0", 3);
        dueBranches("within 9 alike a, a, a", "a5@0 a6@0", 2);
        dueBranches("within 9 a, a, a", "a5@0 a4@0", 3);
        dueBranches("within 9 rising a, a, a, a", "a99@0 a0@0 a1@0 a2@0", 8);
    }
}
