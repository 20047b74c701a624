/** At least one test for each promise: ordinary inputs, the edges that the document names, wrong inputs. */
public final class PromisesTest {
    private static final int UNKNOWN = -1;
    private static final int BAD_VALUE = -2;
    private static final int FULL = -3;
    private static final int TOO_LATE = -4;
    private static final int NONE = -5;
    private static final int LEAST = Integer.MIN_VALUE;
    private static final int GREATEST = Integer.MAX_VALUE;

    private final Check check = new Check();

    public static void main(String[] args) {
        PromisesTest test = new PromisesTest();
        test.constants();
        test.newObject();
        test.event();
        test.eventNewestTime();
        test.forget();
        test.setLateness();
        test.addPattern();
        test.dropPattern();
        test.setWindow();
        test.type();
        test.clearText();
        test.undo();
        test.historyOfFour();
        test.onlyActsAreRecorded();
        test.keep();
        test.restore();
        test.eventOf();
        test.orderOfEvents();
        test.pattern();
        test.branches();
        test.step();
        test.match();
        test.matchWindow();
        test.matchAbsent();
        test.matchRules();
        test.matchMost();
        test.ifEvent();
        test.count();
        test.errorsChangeNothing();
        test.check.end();
    }

    private void constants() {
        check.due("UNKNOWN", WindowMatches.UNKNOWN, UNKNOWN);
        check.due("BAD_VALUE", WindowMatches.BAD_VALUE, BAD_VALUE);
        check.due("FULL", WindowMatches.FULL, FULL);
        check.due("TOO_LATE", WindowMatches.TOO_LATE, TOO_LATE);
        check.due("NONE", WindowMatches.NONE, NONE);
    }

    private void newObject() {
        WindowMatches x = new WindowMatches();
        int[] counts = {0, 0, 0, 0, 0, 20, 0, 0, 0};
        check.dueCounts("new", x, counts);
        check.due("eventOf of a new one", x.eventOf(0, 0), UNKNOWN);
        check.due("pattern of a new one", x.pattern(0, 0), UNKNOWN);
        check.due("undo of a new one", x.undo(), NONE);
        check.due("restore of a new one", x.restore(), NONE);
        WindowMatches other = new WindowMatches();
        Check.send(other, "a1@1");
        Check.add(other, "within 5 a, b");
        check.dueCounts("new, beside another", x, counts);
    }

    private void event() {
        WindowMatches x = new WindowMatches();
        check.due("event a 0 0", x.event('a', 0, 0), 0);
        check.due("event h 99 9999", x.event('h', 99, 9999), 1);
        check.due("kind `", x.event('`', 0, 9999), BAD_VALUE);
        check.due("kind i", x.event('i', 0, 9999), BAD_VALUE);
        check.due("kind A", x.event('A', 0, 9999), BAD_VALUE);
        check.due("kind 0", x.event((char) 0, 0, 9999), BAD_VALUE);
        check.due("kind 65535", x.event((char) 65535, 0, 9999), BAD_VALUE);
        check.due("kind a + 256", x.event((char) ('a' + 256), 0, 9999), BAD_VALUE);
        check.due("value -1", x.event('a', -1, 9999), BAD_VALUE);
        check.due("value 100", x.event('a', 100, 9999), BAD_VALUE);
        check.due("least value", x.event('a', LEAST, 9999), BAD_VALUE);
        check.due("greatest value", x.event('a', GREATEST, 9999), BAD_VALUE);
        check.due("time -1", x.event('a', 0, -1), BAD_VALUE);
        check.due("time 10000", x.event('a', 0, 10000), BAD_VALUE);
        check.due("least time", x.event('a', 0, LEAST), BAD_VALUE);
        check.due("greatest time", x.event('a', 0, GREATEST), BAD_VALUE);
        check.due("too late by one", x.event('a', 0, 9978), TOO_LATE);
        check.due("just not too late", x.event('a', 0, 9979), 2);
        check.due("a bad value ahead of too late", x.event('i', 0, 0), BAD_VALUE);
        for (int i = 3; i < 24; i++) {
            check.due("event " + i, x.event('b', i, 9999), i);
        }
        check.due("the 25th", x.event('b', 0, 9999), FULL);
        check.due("too late ahead of full", x.event('b', 0, 9978), TOO_LATE);
        check.due("a bad value ahead of full", x.event('b', 100, 9999), BAD_VALUE);
        check.due("events", x.count(0), 24);
    }

    private void eventNewestTime() {
        WindowMatches x = new WindowMatches();
        Check.send(x, "a1@100 b2@90");
        check.due("the newest time stays", x.count(3), 100);
        check.due("late against the newest", x.event('c', 0, 79), TOO_LATE);
        check.due("forget all", x.forget(9999), 2);
        check.due("the newest time of forgotten ones", x.count(3), 100);
        check.due("late against a forgotten one", x.event('c', 0, 79), TOO_LATE);
        check.due("the first number again", x.event('c', 0, 80), 0);
        x = new WindowMatches();
        Check.send(x, "a1@10");
        check.due("less than the lateness has passed", x.event('c', 0, 0), 1);
    }

    private void forget() {
        WindowMatches x = new WindowMatches();
        check.due("forget of none", x.forget(5), NONE);
        Check.send(x, "a1@10 b2@5 c3@10 d4@7 e5@5");
        check.due("time -1", x.forget(-1), BAD_VALUE);
        check.due("time 10000", x.forget(10000), BAD_VALUE);
        check.due("least time", x.forget(LEAST), BAD_VALUE);
        check.due("greatest time", x.forget(GREATEST), BAD_VALUE);
        check.due("none is less than 0", x.forget(0), NONE);
        check.due("none is less than 5", x.forget(5), NONE);
        check.due("those at 5", x.forget(6), 2);
        check.due("three are left", x.count(0), 3);
        check.due("kind of 0", x.eventOf(0, 0), 'a');
        check.due("kind of 1", x.eventOf(1, 0), 'c');
        check.due("kind of 2", x.eventOf(2, 0), 'd');
        check.due("value of 2", x.eventOf(2, 1), 4);
        check.due("time of 2", x.eventOf(2, 2), 7);
        check.due("3 is none", x.eventOf(3, 0), UNKNOWN);
        check.due("place of 2", x.eventOf(2, 3), 0);
        check.due("all", x.forget(9999), 3);
        check.due("none is left", x.count(0), 0);
        check.due("the acts that were", x.count(7), 4);
        check.due("undo of forget", x.undo(), 3);
        check.due("they are back", x.count(0), 3);
    }

    private void setLateness() {
        WindowMatches x = new WindowMatches();
        check.due("as at first", x.setLateness(20), NONE);
        check.due("-1", x.setLateness(-1), BAD_VALUE);
        check.due("501", x.setLateness(501), BAD_VALUE);
        check.due("least", x.setLateness(LEAST), BAD_VALUE);
        check.due("greatest", x.setLateness(GREATEST), BAD_VALUE);
        check.due("no act yet", x.count(7), 0);
        check.due("500", x.setLateness(500), 20);
        check.due("0", x.setLateness(0), 500);
        check.due("0 again", x.setLateness(0), NONE);
        check.due("two acts", x.count(7), 2);
        Check.send(x, "a1@100");
        check.due("no lateness", x.event('a', 0, 99), TOO_LATE);
        check.due("the watermark is the newest time", x.count(4), 100);
        check.due("30", x.setLateness(30), 0);
        check.due("the watermark falls", x.count(4), 70);
        check.due("as late as it may be", x.event('a', 0, 70), 1);
        check.due("undo of an event", x.undo(), 3);
        check.due("undo of setLateness", x.undo(), 2);
        check.due("the lateness is back", x.count(5), 0);
    }

    private void addPattern() {
        WindowMatches x = new WindowMatches();
        check.due("the empty text", x.addPattern(), -100);
        check.due("first", Check.add(x, "within 1 a, b"), 0);
        check.due("the text stays", x.count(8), 13);
        check.due("the same again", x.addPattern(), 1);
        check.due("third", Check.add(x, "within 1000 rising a, no b, c, no d, e, no f, g"), 2);
        check.due("a fault changes nothing", Check.add(x, "within 1000 alike a, no b"), -125);
        check.due("three patterns", x.count(1), 3);
        check.due("fourth", Check.add(x, "within 999 alike h, no h, h"), 3);
        check.due("fifth", Check.add(x, "within 9 a, b"), FULL);
        check.due("a fault ahead of full", Check.add(x, "within 9 a, i"), -112);
        check.due("four acts", x.count(7), 4);
        check.due("undo", x.undo(), 3);
        check.due("room again", Check.add(x, "within 9 a, b"), 3);
        check.due("window of the fourth", x.pattern(3, 0), 9);
        check.due("rule of the fourth", x.pattern(3, 1), 0);
        check.due("steps of the fourth", x.pattern(3, 2), 2);
        check.due("window of the third", x.pattern(2, 0), 1000);
        check.due("rule of the third", x.pattern(2, 1), 1);
        check.due("steps of the third", x.pattern(2, 2), 7);
        check.due("plain steps of the third", x.pattern(2, 3), 4);
    }

    private void dropPattern() {
        WindowMatches x = new WindowMatches();
        check.due("none is there", x.dropPattern(0), UNKNOWN);
        Check.add(x, "within 1 a, b");
        Check.add(x, "within 2 rising b, no c, d");
        Check.add(x, "within 3 alike c, d, e, f");
        check.due("-1", x.dropPattern(-1), UNKNOWN);
        check.due("3", x.dropPattern(3), UNKNOWN);
        check.due("least", x.dropPattern(LEAST), UNKNOWN);
        check.due("greatest", x.dropPattern(GREATEST), UNKNOWN);
        check.due("0", x.dropPattern(0), 2);
        check.due("1 is 0 now", x.pattern(0, 0), 2);
        check.due("2 is 1 now", x.pattern(1, 0), 3);
        check.due("its steps", x.pattern(1, 3), 4);
        check.due("its rule", x.pattern(1, 1), 2);
        check.due("2 is none", x.pattern(2, 0), UNKNOWN);
        check.due("the last", x.dropPattern(1), 1);
        check.due("the only one", x.dropPattern(0), 0);
        check.due("no more", x.dropPattern(0), UNKNOWN);
        check.due("undo", x.undo(), 3);
        check.due("it is back", x.pattern(0, 0), 2);
        check.due("its steps too", x.step(0, 1, 1), 1);
    }

    private void setWindow() {
        WindowMatches x = new WindowMatches();
        check.due("no pattern", x.setWindow(0, 5), UNKNOWN);
        Check.add(x, "within 10 a, b");
        Check.add(x, "within 20 a, b");
        Check.send(x, "a1@0 b1@11");
        check.due("-1", x.setWindow(-1, 5), UNKNOWN);
        check.due("2", x.setWindow(2, 5), UNKNOWN);
        check.due("unknown ahead of bad", x.setWindow(2, 0), UNKNOWN);
        check.due("window 0", x.setWindow(0, 0), BAD_VALUE);
        check.due("window 1001", x.setWindow(0, 1001), BAD_VALUE);
        check.due("least window", x.setWindow(0, LEAST), BAD_VALUE);
        check.due("greatest window", x.setWindow(0, GREATEST), BAD_VALUE);
        check.due("window 10", x.setWindow(0, 10), NONE);
        check.due("four acts so far", x.count(7), 4);
        check.due("no match yet", x.pattern(0, 4), 0);
        check.due("window 11", x.setWindow(0, 11), 10);
        check.due("a match", x.pattern(0, 4), 1);
        check.due("window 1", x.setWindow(0, 1), 11);
        check.due("window 1000", x.setWindow(0, 1000), 1);
        check.due("the other one", x.pattern(1, 0), 20);
        check.due("undo", x.undo(), 3);
        check.due("the window is back", x.pattern(0, 0), 1);
    }

    private void type() {
        WindowMatches x = new WindowMatches();
        for (int i = 1; i <= 80; i++) {
            check.due("character " + i, x.type((char) (i * 811)), i);
        }
        check.due("the 81st", x.type('a'), FULL);
        check.due("the length", x.count(8), 80);
        check.due("no act", x.count(7), 0);
        Check.write(x, "within 5 a, b");
        x.type((char) 0);
        check.due("character 0 is a fault", x.addPattern(), -113);
        Check.write(x, "within 5 a");
        x.type((char) (',' + 256));
        check.due("character 300 is no comma", x.addPattern(), -110);
    }

    private void clearText() {
        WindowMatches x = new WindowMatches();
        check.due("empty", x.clearText(), 0);
        Check.write(x, "within 5 a, b");
        check.due("13", x.clearText(), 13);
        check.due("empty again", x.clearText(), 0);
        check.due("the length", x.count(8), 0);
        check.due("nothing to read", x.addPattern(), -100);
        check.due("no act", x.count(7), 0);
        Check.write(x, "within 55");
        check.due("what stood behind the text is gone: a digit", Check.add(x, "within 5"), -108);
        Check.write(x, "within 5 alike a, b");
        check.due("a word", Check.add(x, "within 5 a"), -110);
        check.due("a step", Check.add(x, "within 5 alike a, "), -118);
    }

    private void undo() {
        WindowMatches x = new WindowMatches();
        Check.send(x, "a1@50");
        x.setLateness(7);
        Check.add(x, "within 5 a, b");
        x.forget(51);
        check.due("undo of forget", x.undo(), 3);
        check.due("the event", x.eventOf(0, 2), 50);
        check.due("undo of addPattern", x.undo(), 2);
        check.due("no pattern", x.count(1), 0);
        check.due("the text stays", x.count(8), 13);
        check.due("undo of setLateness", x.undo(), 1);
        check.due("the lateness", x.count(5), 20);
        check.due("undo of event", x.undo(), 0);
        check.due("no event", x.count(0), 0);
        check.due("the newest time", x.count(3), 0);
        check.due("no more", x.undo(), NONE);
        check.due("the first text again", x.addPattern(), 0);
        check.due("undo is no act", x.count(7), 1);
    }

    private void historyOfFour() {
        WindowMatches x = new WindowMatches();
        for (int i = 0; i < 7; i++) {
            x.event('a', i, i);
            check.due("states", x.count(7), Math.min(4, i + 1));
        }
        for (int left = 3; left >= 0; left--) {
            check.due("undo", x.undo(), left);
            check.due("events", x.count(0), 3 + left);
            check.due("newest time", x.count(3), 2 + left);
        }
        check.due("the oldest ones were dropped", x.undo(), NONE);
        check.due("three events", x.count(0), 3);
        x.event('b', 0, 9);
        check.due("undo once more", x.undo(), 0);
        check.due("three again", x.count(0), 3);
    }

    private void onlyActsAreRecorded() {
        WindowMatches x = new WindowMatches();
        x.type('a');
        x.clearText();
        x.keep();
        x.event('i', 0, 0);
        x.forget(5);
        x.setLateness(20);
        x.addPattern();
        x.dropPattern(0);
        x.setWindow(0, 5);
        x.ifEvent('a', 0, 0);
        x.count(2);
        check.due("no state", x.count(7), 0);
        check.due("restore is an act", x.restore(), 0);
        check.due("one state", x.count(7), 1);
        check.due("undo of restore", x.undo(), 0);
    }

    private void keep() {
        WindowMatches x = new WindowMatches();
        check.due("no events", x.keep(), 0);
        Check.send(x, "a1@50 b2@60");
        check.due("two events", x.keep(), 2);
        check.due("no act", x.count(7), 2);
        x.forget(55);
        check.due("in place of the one that was", x.keep(), 1);
        x.forget(100);
        check.due("restore", x.restore(), 1);
        check.due("the event that was left", x.eventOf(0, 0), 'b');
    }

    private void restore() {
        WindowMatches x = new WindowMatches();
        check.due("no snapshot", x.restore(), NONE);
        Check.send(x, "a1@50 b2@60");
        Check.add(x, "within 7 a, b");
        x.setLateness(3);
        x.keep();
        x.setWindow(0, 10);
        x.forget(55);
        x.dropPattern(0);
        Check.send(x, "c3@70");
        x.setLateness(4);
        check.due("restore", x.restore(), 2);
        check.dueCounts("restored", x, new int[] {2, 1, 0, 60, 57, 3, 2, 4, 13});
        check.due("the window", x.pattern(0, 0), 7);
        check.due("the first event", x.eventOf(0, 0), 'a');
        x.setWindow(0, 10);
        check.due("the snapshot stays", x.restore(), 2);
        check.due("the window again", x.pattern(0, 0), 7);
        check.due("undo of restore", x.undo(), 3);
        check.due("the window ahead of restore", x.pattern(0, 0), 10);
        check.due("undo", x.undo(), 2);
        check.due("undo", x.undo(), 1);
        check.due("the events ahead of the first restore", x.count(0), 2);
        check.due("of which the second", x.eventOf(1, 0), 'c');
        check.due("undo keeps the snapshot", x.restore(), 2);
    }

    private void eventOf() {
        WindowMatches x = new WindowMatches();
        check.due("none is there", x.eventOf(0, 0), UNKNOWN);
        Check.send(x, "c7@30 h99@20 a0@25");
        int[][] due = {{'c', 7, 30, 2, 0}, {'h', 99, 20, 0, 0}, {'a', 0, 25, 1, 0}};
        for (int event = 0; event < due.length; event++) {
            for (int what = 0; what < 5; what++) {
                check.due("eventOf " + event + " " + what, x.eventOf(event, what), due[event][what]);
            }
        }
        check.due("-1", x.eventOf(-1, 0), UNKNOWN);
        check.due("3", x.eventOf(3, 0), UNKNOWN);
        check.due("least", x.eventOf(LEAST, 0), UNKNOWN);
        check.due("greatest", x.eventOf(GREATEST, 0), UNKNOWN);
        check.due("what -1", x.eventOf(0, -1), BAD_VALUE);
        check.due("what 5", x.eventOf(0, 5), BAD_VALUE);
        check.due("unknown ahead of bad", x.eventOf(3, 5), UNKNOWN);
        Check.add(x, "within 100 h, c");
        Check.add(x, "within 100 h, a, c");
        Check.send(x, "c1@40");
        int[] shares = {2, 4, 2, 2};
        for (int event = 0; event < shares.length; event++) {
            check.due("matches of event " + event, x.eventOf(event, 4), shares[event]);
        }
    }

    private void orderOfEvents() {
        WindowMatches x = new WindowMatches();
        Check.send(x, "a1@30 a2@30 a3@20 a4@30 a5@20 a6@25");
        int[] places = {3, 4, 0, 5, 1, 2};
        for (int event = 0; event < places.length; event++) {
            check.due("place of " + event, x.eventOf(event, 3), places[event]);
        }
    }

    private void pattern() {
        WindowMatches x = new WindowMatches();
        check.due("none is there", x.pattern(0, 0), UNKNOWN);
        Check.add(x, "within 30 rising a, no b, c, d");
        int[] due = {30, 1, 4, 3, 0, 0, 0};
        for (int what = 0; what < due.length; what++) {
            check.due("pattern 0 " + what, x.pattern(0, what), due[what]);
        }
        check.due("-1", x.pattern(-1, 0), UNKNOWN);
        check.due("1", x.pattern(1, 0), UNKNOWN);
        check.due("least", x.pattern(LEAST, 0), UNKNOWN);
        check.due("greatest", x.pattern(GREATEST, 0), UNKNOWN);
        check.due("what -1", x.pattern(0, -1), BAD_VALUE);
        check.due("what 7", x.pattern(0, 7), BAD_VALUE);
        check.due("unknown ahead of bad", x.pattern(1, 7), UNKNOWN);
        Check.send(x, "a1@0 c2@10 d3@20 d4@30 d5@31");
        check.due("matches", x.pattern(0, 4), 2);
        check.due("a watermark of 11", x.pattern(0, 5), 0);
        x.event('h', 0, 40);
        check.due("a watermark of 20", x.pattern(0, 5), 1);
        x.event('h', 0, 49);
        check.due("a watermark of 29", x.pattern(0, 5), 1);
        x.event('h', 0, 50);
        check.due("a watermark of 30", x.pattern(0, 5), 2);
        x.setLateness(21);
        check.due("a watermark of 29 again", x.pattern(0, 5), 1);
    }

    private void branches() {
        WindowMatches x = new WindowMatches();
        Check.add(x, "within 10 a, no b, c, no d, e");
        check.due("no branch", x.pattern(0, 6), 0);
        x.event('a', 0, 0);
        check.due("a", x.pattern(0, 6), 1);
        x.event('b', 0, 1);
        check.due("an absent step behind the last event", x.pattern(0, 6), 1);
        x.event('c', 0, 2);
        check.due("an absent step between", x.pattern(0, 6), 1);
        x.event('a', 0, 2);
        x.event('c', 0, 3);
        check.due("a, a and a with c", x.pattern(0, 6), 3);
        x.event('e', 0, 4);
        check.due("a match has branches still", x.pattern(0, 6), 3);
        x.event('h', 0, 10);
        check.due("the first one's window has not ended", x.pattern(0, 6), 3);
        x.event('h', 0, 11);
        check.due("the first one's window has ended", x.pattern(0, 6), 2);
        x.event('c', 0, 12);
        check.due("one more c", x.pattern(0, 6), 3);
        x.event('c', 0, 13);
        check.due("all windows have ended", x.pattern(0, 6), 0);
        x.setWindow(0, 11);
        check.due("a longer window", x.pattern(0, 6), 4);
        x = new WindowMatches();
        Check.add(x, "within 100 rising a, a, a");
        Check.send(x, "a5@1 a5@2 a6@3");
        check.due("rising branches", x.pattern(0, 6), 5);
        Check.add(x, "within 100 alike a, a, a");
        check.due("alike branches", x.pattern(1, 6), 4);
    }

    private void step() {
        WindowMatches x = new WindowMatches();
        check.due("no pattern", x.step(0, 0, 0), UNKNOWN);
        Check.add(x, "within 1000 alike a, no b, c, no d, e, no f, h");
        for (int step = 0; step < 7; step++) {
            check.due("kind of " + step, x.step(0, step, 0), "abcdefh".charAt(step));
            check.due("absent " + step, x.step(0, step, 1), step % 2);
        }
        check.due("pattern -1", x.step(-1, 0, 0), UNKNOWN);
        check.due("pattern 1", x.step(1, 0, 0), UNKNOWN);
        check.due("step -1", x.step(0, -1, 0), BAD_VALUE);
        check.due("step 7", x.step(0, 7, 0), BAD_VALUE);
        check.due("least step", x.step(0, LEAST, 0), BAD_VALUE);
        check.due("greatest step", x.step(0, GREATEST, 0), BAD_VALUE);
        check.due("what -1", x.step(0, 0, -1), BAD_VALUE);
        check.due("what 2", x.step(0, 0, 2), BAD_VALUE);
        check.due("unknown ahead of bad", x.step(1, 7, 2), UNKNOWN);
        Check.add(x, "within 1 a, b");
        check.due("step 2 of two", x.step(1, 2, 0), BAD_VALUE);
    }

    private void match() {
        WindowMatches x = new WindowMatches();
        check.due("no pattern", x.match(0, 0, 0), UNKNOWN);
        Check.add(x, "within 100 a, b");
        check.due("no match", x.match(0, 0, 0), NONE);
        Check.send(x, "b0@30 a0@20 a0@15 b0@20 a0@30");
        check.dueMatches("in their order", x, 0, "2,3 2,0 1,3 1,0");
        check.due("rank 4", x.match(0, 4, 0), NONE);
        check.due("greatest rank", x.match(0, GREATEST, 0), NONE);
        check.due("rank -1", x.match(0, -1, 0), BAD_VALUE);
        check.due("least rank", x.match(0, LEAST, 0), BAD_VALUE);
        check.due("place -1", x.match(0, 0, -1), BAD_VALUE);
        check.due("place 2", x.match(0, 0, 2), BAD_VALUE);
        check.due("greatest place", x.match(0, 0, GREATEST), BAD_VALUE);
        check.due("a bad place ahead of none", x.match(0, 4, 2), BAD_VALUE);
        check.due("unknown ahead of bad", x.match(1, -1, 2), UNKNOWN);
        check.due("pattern -1", x.match(-1, 0, 0), UNKNOWN);
        Check.add(x, "within 100 a, no c, b");
        check.due("an absent step has no place", x.match(1, 0, 2), BAD_VALUE);
    }

    private void matchWindow() {
        WindowMatches x = new WindowMatches();
        Check.add(x, "within 10 a, b, a");
        Check.send(x, "a0@5 b0@10 a0@15 b0@15 a0@16 a0@25");
        check.dueMatches("as long as the window", x, 0, "0,1,2 2,3,4 2,3,5");
    }

    private void matchAbsent() {
        WindowMatches x = new WindowMatches();
        Check.add(x, "within 100 a, no b, c");
        Check.add(x, "within 100 a, no c, c");
        Check.add(x, "within 100 a, no a, c");
        Check.add(x, "within 100 a, no a, a");
        Check.send(x, "a0@10 c0@20 b9@20 c0@20 a0@20 c0@20");
        check.dueMatches("no b between", x, 0, "0,1 4,5");
        check.dueMatches("only the next c", x, 1, "0,1 4,5");
        check.dueMatches("only the a that is next ahead", x, 2, "0,1 0,3 4,5");
        check.dueMatches("only neighbours", x, 3, "0,4");
        x.event('b', 0, 10);
        check.dueMatches("a late b takes a match", x, 0, "4,5");
        x.dropPattern(0);
        Check.add(x, "within 100 a, c, no b, c");
        check.dueMatches("a b ahead of the second step", x, 3, "0,3,5");
    }

    private void matchRules() {
        WindowMatches x = new WindowMatches();
        Check.add(x, "within 100 rising a, b, a");
        Check.add(x, "within 100 alike a, b, a");
        Check.add(x, "within 100 a, b, a");
        Check.send(x, "a5@1 b5@2 b6@3 a5@4 a6@5 a7@6");
        check.dueMatches("rising", x, 0, "0,2,5");
        check.dueMatches("alike", x, 1, "0,1,3");
        check.dueMatches("no rule", x, 2, "0,1,3 0,1,4 0,1,5 0,2,3 0,2,4 0,2,5");
        x = new WindowMatches();
        Check.add(x, "within 100 rising a, no b, a");
        Check.add(x, "within 100 alike a, no b, a");
        Check.send(x, "a5@1 b9@2 a6@3 a6@4");
        check.dueMatches("an absent one of any value, rising", x, 0, "");
        check.dueMatches("an absent one of any value, alike", x, 1, "2,3");
    }

    private void matchMost() {
        WindowMatches x = new WindowMatches();
        for (int i = 0; i < 4; i++) {
            check.due("pattern", Check.add(x, "within 1000 a, a, a, a"), i);
        }
        for (int i = 0; i < 24; i++) {
            x.event('a', i, 0);
        }
        check.due("matches of one", x.pattern(0, 4), 10626);
        check.due("matches of all", x.count(2), 42504);
        check.due("branches", x.pattern(0, 6), 24 + 276 + 2024);
        check.due("sure at 0", x.pattern(0, 5), 10626);
        check.due("matches of an event", x.eventOf(7, 4), 4 * 1771);
        check.due("the last match", x.match(3, 10625, 0), 20);
        check.due("its last event", x.match(3, 10625, 3), 23);
        check.due("one rank more", x.match(3, 10626, 0), NONE);
        check.due("with one more event", x.ifEvent('a', 0, 0), 4 * 12650);
        check.due("with one of another kind", x.ifEvent('b', 0, 0), 42504);
    }

    private void ifEvent() {
        WindowMatches x = new WindowMatches();
        check.due("nothing there", x.ifEvent('a', 0, 0), 0);
        Check.add(x, "within 10 a, no b, c");
        Check.add(x, "within 20 rising a, c");
        Check.send(x, "a5@30 c6@40 c6@42");
        check.due("as it is", x.count(2), 3);
        check.due("one more c", x.ifEvent('c', 6, 40), 5);
        check.due("a c that does not rise", x.ifEvent('c', 5, 40), 4);
        check.due("a c beyond one window", x.ifEvent('c', 6, 41), 4);
        check.due("a c beyond both windows", x.ifEvent('c', 6, 51), 3);
        check.due("a b between", x.ifEvent('b', 0, 35), 2);
        check.due("a b behind the c of its time", x.ifEvent('b', 0, 40), 3);
        check.due("a b behind the a of its time", x.ifEvent('b', 0, 30), 2);
        check.due("a b ahead of all", x.ifEvent('b', 0, 29), 3);
        check.due("nothing came", x.count(0), 3);
        check.due("nothing new", x.count(3), 42);
        check.due("no act", x.count(7), 4);
        check.due("kind i", x.ifEvent('i', 0, 40), BAD_VALUE);
        check.due("kind `", x.ifEvent('`', 0, 40), BAD_VALUE);
        check.due("value -1", x.ifEvent('a', -1, 40), BAD_VALUE);
        check.due("value 100", x.ifEvent('a', 100, 40), BAD_VALUE);
        check.due("time -1", x.ifEvent('a', 0, -1), BAD_VALUE);
        check.due("time 10000", x.ifEvent('a', 0, 10000), BAD_VALUE);
        check.due("too late by one", x.ifEvent('a', 9, 21), TOO_LATE);
        check.due("just not too late", x.ifEvent('a', 5, 22), 5);
        check.due("bad ahead of too late", x.ifEvent('a', 100, 21), BAD_VALUE);
        check.due("time 9999", x.ifEvent('a', 0, 9999), 3);
    }

    private void count() {
        WindowMatches x = new WindowMatches();
        Check.add(x, "within 10 a, b");
        Check.add(x, "within 10 a, c");
        Check.send(x, "a0@100 b0@110 c0@111 a0@120 b0@115");
        check.dueCounts("counts", x, new int[] {5, 2, 1, 120, 100, 20, 3, 4, 14});
        check.due("what -1", x.count(-1), BAD_VALUE);
        check.due("what 9", x.count(9), BAD_VALUE);
        check.due("least what", x.count(LEAST), BAD_VALUE);
        check.due("greatest what", x.count(GREATEST), BAD_VALUE);
        x.setLateness(121);
        check.due("the watermark is at least 0", x.count(4), 0);
    }

    private void errorsChangeNothing() {
        WindowMatches x = new WindowMatches();
        Check.add(x, "within 10 a, b");
        Check.send(x, "a0@100 b0@110");
        x.clearText();
        int[] counts = {2, 1, 1, 110, 90, 20, 0, 3, 0};
        x.event('a', 0, 89);
        x.event('i', 0, 500);
        x.event('a', 100, 500);
        x.event('a', 0, 10000);
        x.ifEvent('a', 0, 500);
        x.forget(100);
        x.forget(10000);
        x.setLateness(20);
        x.setLateness(501);
        x.addPattern();
        x.dropPattern(1);
        x.setWindow(0, 10);
        x.setWindow(0, 0);
        x.restore();
        check.dueCounts("after errors", x, counts);
        check.due("the window", x.pattern(0, 0), 10);
    }
}
