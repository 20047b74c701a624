/** A test for each sentence that names an edge: of a new object, the history and the snapshot. Promises 1, 10 to 12. */
public final class HistoryEdgesTest {
    private static final int UNKNOWN = -1;
    private static final int FULL = -3;
    private static final int TOO_LATE = -4;
    private static final int NONE = -5;

    private final Check check = new Check();

    public static void main(String[] args) {
        HistoryEdgesTest test = new HistoryEdgesTest();
        test.newObject();
        test.newObjectsQuestions();
        test.objectsOfTheirOwn();
        test.atMost512Calls();
        test.atMostFourStates();
        test.oldestIsDropped();
        test.undoLeft();
        test.undoRestoresTheLatest();
        test.actsRecord();
        test.actsBehindUndo();
        test.noActs();
        test.snapshotAtFirst();
        test.inPlaceOfTheOneThatWas();
        test.keepAnswers();
        test.restoreAnswers();
        test.snapshotStays();
        test.stateIsEverything();
        test.stateIsNotTheText();
        test.stateIsNotTheSnapshot();
        test.stateIsNotTheHistory();
        test.statesAreTheirOwn();
        test.check.end();
    }

    private void newObject() {
        check.sentence("Creates a stream without events and patterns.");
        WindowMatches x = new WindowMatches();
        check.dueCounts("new", x, 0, 0, 0, 0, 0, 20, 0, 0, 0);
        check.same("a new one", Check.told(x), "0 states; a text of 0; counts 0 0 0 0 0 20 0");
        check.due("the first event", x.event('a', 0, 0), 0);
        check.due("the first pattern", Check.add(x, "within 1 a, b"), 0);
    }

    private void newObjectsQuestions() {
        check.sentence("`UNKNOWN = -1`: There is no such event or pattern.");
        WindowMatches x = new WindowMatches();
        for (int what = -1; what <= 7; what++) {
            check.due("eventOf " + what, x.eventOf(0, what), UNKNOWN);
            check.due("pattern " + what, x.pattern(0, what), UNKNOWN);
            check.due("step " + what, x.step(0, 0, what), UNKNOWN);
            check.due("match " + what, x.match(0, 0, what), UNKNOWN);
        }
        check.due("dropPattern", x.dropPattern(0), UNKNOWN);
        check.due("setWindow", x.setWindow(0, 1), UNKNOWN);
        check.due("ifEvent", x.ifEvent('a', 0, 0), 0);
        check.due("forget", x.forget(9999), NONE);
        check.due("undo", x.undo(), NONE);
        check.due("restore", x.restore(), NONE);
        check.due("addPattern", x.addPattern(), -100);
        check.due("clearText", x.clearText(), 0);
        check.due("keep", x.keep(), 0);
    }

    private void objectsOfTheirOwn() {
        check.sentence("Creates a stream without events and patterns.");
        WindowMatches x = Check.filled();
        String told = Check.told(x);
        WindowMatches other = new WindowMatches();
        check.same("one beside another", Check.told(other), "0 states; a text of 0; counts 0 0 0 0 0 20 0");
        Check.add(other, "within 3 a, a, a");
        Check.send(other, "a0@0 a0@1 a0@2");
        other.keep();
        other.setLateness(1);
        check.same("the first one", Check.told(x), told);
    }

    private void atMost512Calls() {
        check.sentence("An object is used for at most 512 calls after it has been made");
        WindowMatches x = new WindowMatches();
        Check.add(x, "within 9 a, a");
        int calls = 15;
        while (calls < 508) {
            check.due("after " + calls + " calls", x.event('a', 0, calls), calls < 39 ? calls - 15 : FULL);
            calls++;
        }
        check.due("call 509", x.count(2), 171);
        check.due("call 510", x.match(0, 170, 1), 23);
        check.due("call 511", x.undo(), 3);
        check.due("call 512", x.count(0), 23);
    }

    private void atMostFourStates() {
        check.sentence("A history of at most 4 states is kept");
        for (int acts = 0; acts <= 20; acts++) {
            WindowMatches x = afterActs(acts);
            int states = Math.min(4, acts);
            check.due("states after " + acts, x.count(7), states);
            for (int left = states - 1; left >= 0; left--) {
                check.due("undo after " + acts, x.undo(), left);
                check.due("states that are left", x.count(7), left);
            }
            check.due("no more after " + acts, x.undo(), NONE);
            check.due("and no more", x.undo(), NONE);
            check.due("no state", x.count(7), 0);
        }
    }

    /** Each act sets the lateness to its number, from 1. */
    private static WindowMatches afterActs(int acts) {
        WindowMatches x = new WindowMatches();
        x.setLateness(0);
        x.undo();
        for (int i = 1; i <= acts; i++) {
            x.setLateness(100 + i);
        }
        return x;
    }

    private void oldestIsDropped() {
        check.sentence("when one more is recorded, the oldest one is dropped");
        for (int acts = 0; acts <= 20; acts++) {
            WindowMatches x = afterActs(acts);
            for (int undone = 1; undone <= 4; undone++) {
                x.undo();
                int lateness = Math.max(acts - undone, 0);
                check.due(undone + " undone of " + acts, x.count(5), lateness == 0 ? 20 : 100 + lateness);
            }
            x.undo();
            int least = Math.max(acts - 4, 0);
            check.due("all undone of " + acts, x.count(5), least == 0 ? 20 : 100 + least);
        }
    }

    private void undoLeft() {
        check.sentence("Returns the number of states that are left; NONE if the history is empty.");
        WindowMatches x = new WindowMatches();
        check.due("a new one", x.undo(), NONE);
        x.event('a', 0, 5);
        check.due("none is left", x.undo(), 0);
        check.due("an empty one", x.undo(), NONE);
        check.due("no event", x.count(0), 0);
        check.due("no state", x.count(7), 0);
        Check.send(x, "a0@5 a0@6");
        check.due("one is left", x.undo(), 1);
        Check.send(x, "a0@7 a0@8 a0@9");
        check.due("three are left", x.undo(), 3);
        check.due("two are left", x.undo(), 2);
    }

    private void undoRestoresTheLatest() {
        check.sentence("undo() removes and restores the latest one");
        Check.Call[] acts = acts();
        for (int i = 0; i < acts.length; i++) {
            WindowMatches x = Check.filled();
            x.undo();
            String told = Check.told(x);
            String state = Check.state(x);
            check.holds("act " + i + " is one", acts[i].on(x) >= 0);
            check.holds("act " + i + " changes something", !Check.state(x).equals(state));
            x.undo();
            check.same("undo of act " + i, Check.told(x), told);
        }
    }

    private static Check.Call[] acts() {
        return new Check.Call[] {
            x -> x.event('a', 0, 23),
            x -> x.event('h', 99, 9999),
            x -> x.forget(45),
            x -> x.forget(9999),
            x -> x.setLateness(0),
            x -> x.addPattern(),
            x -> x.dropPattern(0),
            x -> x.dropPattern(1),
            x -> x.setWindow(0, 1000),
            x -> x.restore(),
        };
    }

    private void actsRecord() {
        check.sentence("records the state that was before it");
        Check.Call[] acts = acts();
        for (int i = 0; i < acts.length; i++) {
            WindowMatches x = new WindowMatches();
            Check.add(x, "within 5 a, b");
            Check.add(x, "within 5 a, b");
            x.event('a', 0, 40);
            x.keep();
            check.due("states ahead of act " + i, x.count(7), 3);
            acts[i].on(x);
            check.due("states behind act " + i, x.count(7), 4);
        }
        WindowMatches x = new WindowMatches();
        x.keep();
        check.due("a restore that changes nothing", x.restore(), 0);
        check.due("is an act still", x.count(7), 1);
        check.due("and can be undone", x.undo(), 0);
    }

    private void actsBehindUndo() {
        check.sentence("undo() removes and restores the latest one");
        WindowMatches x = afterActs(6);
        x.undo();
        x.undo();
        check.due("the lateness of act 4", x.count(5), 104);
        x.setLateness(7);
        x.setLateness(8);
        check.due("four states again", x.count(7), 4);
        int[] due = {7, 104, 103, 102};
        for (int i = 0; i < due.length; i++) {
            check.due("left", x.undo(), 3 - i);
            check.due("the lateness", x.count(5), due[i]);
        }
        check.due("no more", x.undo(), NONE);
    }

    private void noActs() {
        check.sentence("Each call of a method that is described as an act, and returns no error and not NONE,");
        WindowMatches x = new WindowMatches();
        x.event('a', 0, 40);
        x.type('w');
        check.due("type", x.count(7), 1);
        x.clearText();
        check.due("clearText", x.count(7), 1);
        x.keep();
        check.due("keep", x.count(7), 1);
        x.ifEvent('a', 0, 41);
        x.eventOf(0, 4);
        x.pattern(0, 4);
        x.step(0, 0, 0);
        x.match(0, 0, 0);
        x.count(2);
        check.due("what is told", x.count(7), 1);
        check.due("undo", x.undo(), 0);
        check.due("undo is none itself", x.count(7), 0);
    }

    private void snapshotAtFirst() {
        check.sentence("There is one snapshot, empty at first.");
        WindowMatches x = new WindowMatches();
        check.due("a new one", x.restore(), NONE);
        x.event('a', 0, 5);
        check.due("with an event", x.restore(), NONE);
        x.undo();
        check.due("behind undo", x.restore(), NONE);
        check.due("no state", x.count(7), 0);
        x.keep();
        check.due("a snapshot without events is one", x.restore(), 0);
    }

    private void inPlaceOfTheOneThatWas() {
        check.sentence("Takes a snapshot of the state, in place of the one that was.");
        WindowMatches x = Check.filled();
        x.keep();
        String kept = Check.state(x);
        x.forget(9999);
        x.undo();
        check.same("undone", Check.state(x), kept);
        x.dropPattern(0);
        check.due("restore", x.restore(), 5);
        check.same("restored", Check.state(x), kept);
        x.forget(9999);
        check.due("without events", x.keep(), 0);
        x.event('a', 0, 60);
        check.due("the one without events", x.restore(), 0);
        check.due("its patterns", x.count(1), 2);
    }

    private void keepAnswers() {
        check.sentence("Returns how many events there are.");
        WindowMatches x = new WindowMatches();
        for (int events = 0; events <= 24; events++) {
            check.due("keep with " + events, x.keep(), events);
            check.due("restore with " + events, x.restore(), events);
            x.event('a', 0, 5);
        }
        check.due("keep when it is full", x.keep(), 24);
    }

    private void restoreAnswers() {
        check.sentence("Returns how many events there are then; NONE if there is no snapshot.");
        for (int events = 0; events <= 24; events++) {
            WindowMatches x = new WindowMatches();
            check.due("no snapshot", x.restore(), NONE);
            for (int i = 0; i < events; i++) {
                x.event('a', i, 5);
            }
            x.keep();
            x.event('a', 0, 6);
            x.forget(9999);
            check.due("restore " + events, x.restore(), events);
            check.due("events then", x.count(0), events);
            check.due("the last one's value", x.eventOf(events - 1, 1), events == 0 ? UNKNOWN : events - 1);
        }
    }

    private void snapshotStays() {
        check.sentence("Restores the state of the snapshot, which stays.");
        for (Check.Call act : acts()) {
            WindowMatches x = Check.filled();
            x.keep();
            String kept = Check.state(x);
            for (int i = 0; i < 3; i++) {
                check.holds("it is an act", act.on(x) >= 0);
                check.due("restore", x.restore(), 5);
                check.same("each time", Check.state(x), kept);
            }
        }
    }

    private void stateIsEverything() {
        check.sentence("A state is everything but the text, the history and the snapshot.");
        WindowMatches x = new WindowMatches();
        Check.send(x, "a1@100");
        x.keep();
        Check.send(x, "a2@500");
        x.restore();
        check.due("the newest time", x.count(3), 100);
        check.due("the watermark", x.count(4), 80);
        check.due("not too late", x.ifEvent('a', 0, 80), 0);
        x.undo();
        check.due("the newest time of before", x.count(3), 500);
        check.due("too late", x.ifEvent('a', 0, 479), TOO_LATE);
        x.setLateness(0);
        x.restore();
        check.due("the lateness", x.count(5), 20);
        Check.add(x, "within 5 a, b");
        x.setWindow(0, 6);
        x.restore();
        check.due("no pattern", x.count(1), 0);
        x.undo();
        check.due("the window", x.pattern(0, 0), 6);
        x.undo();
        check.due("the window of before", x.pattern(0, 0), 5);
    }

    private void stateIsNotTheText() {
        check.sentence("A state is everything but the text,");
        WindowMatches x = new WindowMatches();
        Check.add(x, "within 5 a, b");
        x.keep();
        Check.write(x, "with");
        x.setLateness(3);
        Check.write(x, "within 5 a, ");
        x.undo();
        check.due("the text behind undo", x.addPattern(), -112);
        x.restore();
        check.due("the text behind restore", x.addPattern(), -112);
        x.type('h');
        check.due("it can be gone on with", x.addPattern(), 1);
        check.due("its last step", x.step(1, 1, 0), 'h');
    }

    private void stateIsNotTheSnapshot() {
        check.sentence("the history and the snapshot");
        WindowMatches x = new WindowMatches();
        x.event('a', 0, 5);
        x.keep();
        x.event('a', 0, 6);
        check.due("undo goes behind keep", x.undo(), 1);
        check.due("and farther", x.undo(), 0);
        check.due("the snapshot is there still", x.restore(), 1);
        x.event('b', 0, 7);
        x.keep();
        x.undo();
        x.undo();
        check.due("the newer snapshot is there still", x.restore(), 2);
    }

    private void stateIsNotTheHistory() {
        check.sentence("Restores the state of the snapshot, which stays. This is an act.");
        WindowMatches x = new WindowMatches();
        x.keep();
        Check.send(x, "a0@5 a0@6 a0@7");
        check.due("restore", x.restore(), 0);
        check.due("the states are not those of keep", x.count(7), 4);
        check.due("restore once more", x.restore(), 0);
        check.due("at most four", x.count(7), 4);
        check.due("undo of the second restore", x.undo(), 3);
        check.due("events of the first restore", x.count(0), 0);
        check.due("undo of the first restore", x.undo(), 2);
        check.due("events ahead of it", x.count(0), 3);
        check.due("undo of an event", x.undo(), 1);
        check.due("two events", x.count(0), 2);
        check.due("undo of another one", x.undo(), 0);
        check.due("one event", x.count(0), 1);
    }

    /** What is done to a state that came back must not be done to the one that is kept. */
    private void statesAreTheirOwn() {
        check.sentence("Restores the state of the snapshot, which stays.");
        WindowMatches x = new WindowMatches();
        Check.add(x, "within 5 rising a, no b, c");
        Check.send(x, "a1@10 c2@12");
        x.keep();
        String kept = Check.state(x);
        x.restore();
        x.setWindow(0, 1);
        x.forget(11);
        x.dropPattern(0);
        Check.add(x, "within 7 alike h, h, h, h");
        Check.send(x, "h9@11");
        x.restore();
        check.same("the snapshot", Check.state(x), kept);
        x.undo();
        check.due("the pattern of before", x.pattern(0, 1), 2);
        x.undo();
        x.undo();
        x.undo();
        check.due("the window ahead of dropPattern", x.pattern(0, 0), 1);
    }
}
