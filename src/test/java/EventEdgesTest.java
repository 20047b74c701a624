/** A test for each sentence that names an edge: of events, of forgetting, of the lateness. Promises 2, 3, 4 and 13. */
public final class EventEdgesTest {
    private static final int UNKNOWN = -1;
    private static final int BAD_VALUE = -2;
    private static final int FULL = -3;
    private static final int TOO_LATE = -4;
    private static final int NONE = -5;
    // Numbers that are in range again if only some of their bits are looked at, or if they are turned round.
    private static final int[] FAR = {Integer.MIN_VALUE, Integer.MIN_VALUE + 1, -65536, -10000, -500, -256, -24, -2,
        10000 + 65536, 65536, 65541, 1 << 24, Integer.MAX_VALUE - 1, Integer.MAX_VALUE};

    private final Check check = new Check();

    public static void main(String[] args) {
        EventEdgesTest test = new EventEdgesTest();
        test.kinds();
        test.leastAndGreatest();
        test.values();
        test.times();
        test.atMost24();
        test.numbersAsTheyCame();
        test.orderOfTimes();
        test.newestAtFirst();
        test.newestIsTheGreatest();
        test.newestOfForgottenOnes();
        test.newestOfRefusedOnes();
        test.latenessAtFirst();
        test.latenessRange();
        test.tooLate();
        test.watermarkAtLeastZero();
        test.watermarkNeverFalls();
        test.eventChecksInOrder();
        test.forgetTimes();
        test.forgetLess();
        test.forgetNumbersAnew();
        test.forgetHowMany();
        test.setLatenessAnswers();
        test.eventOfNumbers();
        test.eventOfWhat();
        test.check.end();
    }

    private void kinds() {
        check.sentence("- `kind`: a to h");
        for (int code = 0; code <= 65535; code++) {
            boolean isKind = "abcdefgh".indexOf(code) >= 0;
            WindowMatches x = new WindowMatches();
            check.due("ifEvent of kind " + code, x.ifEvent((char) code, 0, 0), isKind ? 0 : BAD_VALUE);
            check.due("event of kind " + code, x.event((char) code, 0, 0), isKind ? 0 : BAD_VALUE);
            check.due("events with kind " + code, x.count(0), isKind ? 1 : 0);
            check.due("the kind " + code, x.eventOf(0, 0), isKind ? code : UNKNOWN);
        }
    }

    private void leastAndGreatest() {
        check.sentence("An event has a kind (a to h), a value (0 to 99), and a time (0 to 9999).");
        WindowMatches x = new WindowMatches();
        check.due("the least", x.event('a', 0, 0), 0);
        check.due("the greatest", x.event('h', 99, 9999), 1);
        int[][] due = {{'a', 0, 0, 0}, {'h', 99, 9999, 1}};
        for (int event = 0; event < due.length; event++) {
            for (int what = 0; what < 4; what++) {
                check.due("of " + event + ", " + what, x.eventOf(event, what), due[event][what]);
            }
        }
    }

    private void values() {
        check.sentence("- `value`: 0 to 99");
        for (int value = -30; value <= 300; value++) {
            value(value, value >= 0 && value <= 99);
        }
        for (int value : FAR) {
            value(value, false);
        }
    }

    private void value(int value, boolean isValue) {
        WindowMatches x = new WindowMatches();
        check.due("ifEvent of value " + value, x.ifEvent('a', value, 0), isValue ? 0 : BAD_VALUE);
        check.due("event of value " + value, x.event('a', value, 0), isValue ? 0 : BAD_VALUE);
        check.due("the value " + value, x.eventOf(0, 1), isValue ? value : UNKNOWN);
    }

    private void times() {
        check.sentence("- `time`: 0 to 9999");
        for (int time = -30; time <= 11000; time++) {
            time(time, time >= 0 && time <= 9999);
        }
        for (int time : FAR) {
            time(time, false);
        }
    }

    private void time(int time, boolean isTime) {
        WindowMatches x = new WindowMatches();
        check.due("ifEvent at " + time, x.ifEvent('a', 0, time), isTime ? 0 : BAD_VALUE);
        check.due("event at " + time, x.event('a', 0, time), isTime ? 0 : BAD_VALUE);
        check.due("the time " + time, x.eventOf(0, 2), isTime ? time : UNKNOWN);
        check.due("the newest time with " + time, x.count(3), isTime ? time : 0);
    }

    private void atMost24() {
        check.sentence("At most 24 events are kept");
        WindowMatches x = new WindowMatches();
        for (int i = 0; i < 24; i++) {
            check.due("event " + i, x.event('a', i, i), i);
        }
        check.due("the 25th", x.event('a', 0, 23), FULL);
        check.due("the 25th again, at another time", x.event('h', 99, 9999), FULL);
        check.due("events", x.count(0), 24);
        check.due("the value of the 24th", x.eventOf(23, 1), 23);
        check.due("number 24", x.eventOf(24, 0), UNKNOWN);
        check.due("undo", x.undo(), 3);
        check.due("the 24th again", x.event('b', 50, 23), 23);
        check.due("full again", x.event('b', 0, 23), FULL);
        check.due("forget one", x.forget(1), 1);
        check.due("room for one", x.event('c', 0, 23), 23);
        check.due("and no more", x.event('c', 0, 23), FULL);
    }

    private void numbersAsTheyCame() {
        check.sentence("they are numbered from 0 in the order in which they came");
        WindowMatches x = new WindowMatches();
        x.setLateness(500);
        for (int i = 0; i < 24; i++) {
            check.due("each ahead of those that came", x.event((char) ('a' + i % 8), i, 500 - i), i);
        }
        for (int i = 0; i < 24; i++) {
            check.due("the kind of " + i, x.eventOf(i, 0), 'a' + i % 8);
            check.due("the value of " + i, x.eventOf(i, 1), i);
            check.due("the time of " + i, x.eventOf(i, 2), 500 - i);
        }
    }

    private void orderOfTimes() {
        check.sentence("They are told in the order of their times, of several in that of their numbers.");
        WindowMatches same = new WindowMatches();
        WindowMatches falling = new WindowMatches();
        WindowMatches late = new WindowMatches();
        for (int i = 0; i < 24; i++) {
            same.event('a', 0, 7);
            falling.event('a', 0, 20 - i / 2);
            late.event('a', 0, i == 0 ? 8 : 7);
        }
        for (int i = 0; i < 24; i++) {
            check.due("the place of " + i + " among equals", same.eventOf(i, 3), i);
            check.due("the place of " + i + " in falling pairs", falling.eventOf(i, 3), 22 - i / 2 * 2 + i % 2);
            check.due("the place of " + i + " behind the first", late.eventOf(i, 3), i == 0 ? 23 : i - 1);
        }
        WindowMatches one = new WindowMatches();
        one.event('a', 0, 9999);
        check.due("the place of the only one", one.eventOf(0, 3), 0);
    }

    private void newestAtFirst() {
        check.sentence("0 at first");
        WindowMatches x = new WindowMatches();
        check.due("the newest time", x.count(3), 0);
        x.event('a', 0, 0);
        check.due("with an event at 0", x.count(3), 0);
        x.event('a', 0, 1);
        check.due("with an event at 1", x.count(3), 1);
        x.undo();
        check.due("the state that was before", x.count(3), 0);
    }

    private void newestIsTheGreatest() {
        check.sentence("The newest time is the greatest one of all events that came");
        WindowMatches x = new WindowMatches();
        x.event('a', 0, 100);
        x.event('a', 0, 99);
        check.due("one less", x.count(3), 100);
        x.event('a', 0, 100);
        check.due("as much", x.count(3), 100);
        x.event('a', 0, 101);
        check.due("one more", x.count(3), 101);
        x.event('a', 0, 9999);
        check.due("the greatest that there is", x.count(3), 9999);
    }

    private void newestOfForgottenOnes() {
        check.sentence("also of those that were forgotten since");
        WindowMatches x = new WindowMatches();
        Check.send(x, "a0@100 a0@95");
        check.due("forget both", x.forget(101), 2);
        check.due("no event", x.count(0), 0);
        check.due("the newest time", x.count(3), 100);
        check.due("the watermark", x.count(4), 80);
        check.due("ifEvent too late", x.ifEvent('a', 0, 79), TOO_LATE);
        check.due("too late", x.event('a', 0, 79), TOO_LATE);
        check.due("not too late", x.event('a', 0, 80), 0);
        check.due("the newest time still", x.count(3), 100);
    }

    private void newestOfRefusedOnes() {
        check.sentence("A call that returns an error or NONE changes nothing.");
        WindowMatches x = new WindowMatches();
        x.event('a', 0, 100);
        x.event('i', 0, 200);
        x.event('a', 100, 200);
        x.event('a', 0, 10000);
        x.ifEvent('a', 0, 200);
        check.due("the newest time", x.count(3), 100);
        for (int i = 1; i < 24; i++) {
            x.event('a', 0, 100);
        }
        check.due("full", x.event('a', 0, 200), FULL);
        check.due("the newest time of a full one", x.count(3), 100);
        check.due("one that is late is as before", x.ifEvent('a', 0, 80), 0);
    }

    private void latenessAtFirst() {
        check.sentence("The lateness (0 to 500; at first 20) tells how late an event may come");
        WindowMatches x = new WindowMatches();
        check.due("the lateness", x.count(5), 20);
        check.due("20 is so already", x.setLateness(20), NONE);
        x.event('a', 0, 50);
        check.due("late by 21", x.event('a', 0, 29), TOO_LATE);
        check.due("late by 20", x.event('a', 0, 30), 1);
        check.due("the previous one", x.setLateness(19), 20);
    }

    private void latenessRange() {
        check.sentence("- `ticks`: 0 to 500");
        for (int ticks = -300; ticks <= 1100; ticks++) {
            lateness(ticks, ticks >= 0 && ticks <= 500);
        }
        for (int ticks : FAR) {
            lateness(ticks, false);
        }
    }

    private void lateness(int ticks, boolean isLateness) {
        WindowMatches x = new WindowMatches();
        check.due("setLateness " + ticks, x.setLateness(ticks), !isLateness ? BAD_VALUE : ticks == 20 ? NONE : 20);
        check.due("the lateness after " + ticks, x.count(5), isLateness ? ticks : 20);
        check.due("states after " + ticks, x.count(7), isLateness && ticks != 20 ? 1 : 0);
    }

    private void tooLate() {
        check.sentence("one whose time is less than the newest time less the lateness is too late");
        int[][] cases = {{0, 0}, {0, 1}, {20, 0}, {20, 19}, {20, 20}, {20, 21}, {20, 9999}, {1, 1}, {1, 2}, {500, 499},
            {500, 500}, {500, 501}, {500, 9999}, {0, 9999}};
        for (int[] lateAndNewest : cases) {
            WindowMatches x = new WindowMatches();
            x.setLateness(lateAndNewest[0]);
            x.event('a', 0, lateAndNewest[1]);
            String name = "lateness " + lateAndNewest[0] + ", newest " + lateAndNewest[1];
            int edge = Math.max(0, lateAndNewest[1] - lateAndNewest[0]);
            if (edge > 0) {
                check.due(name + ": ifEvent below", x.ifEvent('a', 0, edge - 1), TOO_LATE);
                check.due(name + ": event below", x.event('a', 0, edge - 1), TOO_LATE);
                check.due(name + ": event at 0", x.event('a', 0, 0), TOO_LATE);
            }
            check.due(name + ": ifEvent at the edge", x.ifEvent('a', 0, edge), 0);
            check.due(name + ": event at the edge", x.event('a', 0, edge), 1);
        }
    }

    private void watermarkAtLeastZero() {
        check.sentence("The watermark is the newest time less the lateness, but at least 0.");
        int[][] cases = {{20, 0, 0}, {20, 19, 0}, {20, 20, 0}, {20, 21, 1}, {20, 9999, 9979}, {0, 0, 0}, {0, 1, 1},
            {0, 9999, 9999}, {500, 499, 0}, {500, 500, 0}, {500, 501, 1}, {500, 0, 0}, {1, 1, 0}, {1, 2, 1}};
        for (int[] due : cases) {
            WindowMatches x = new WindowMatches();
            x.setLateness(due[0]);
            if (due[1] > 0) {
                x.event('a', 0, due[1]);
            }
            check.due("lateness " + due[0] + ", newest " + due[1], x.count(4), due[2]);
        }
    }

    private void watermarkNeverFalls() {
        check.sentence("It never falls, unless the lateness is changed.");
        WindowMatches x = new WindowMatches();
        x.event('a', 0, 100);
        check.due("at first", x.count(4), 80);
        x.event('a', 0, 80);
        check.due("with a late event", x.count(4), 80);
        x.forget(9999);
        check.due("with all forgotten", x.count(4), 80);
        x.event('a', 0, 85);
        check.due("with a late one alone", x.count(4), 80);
        x.setLateness(21);
        check.due("with more lateness", x.count(4), 79);
        x.setLateness(0);
        check.due("with none", x.count(4), 100);
        x.setLateness(500);
        check.due("with the greatest", x.count(4), 0);
    }

    private void eventChecksInOrder() {
        check.sentence("Returns its number; BAD_VALUE; TOO_LATE; FULL if there are 24.");
        WindowMatches x = new WindowMatches();
        for (int i = 0; i < 24; i++) {
            x.event('a', 0, 100);
        }
        check.due("a bad kind, too late, full", x.event('i', 0, 79), BAD_VALUE);
        check.due("a bad value, too late, full", x.event('a', -1, 79), BAD_VALUE);
        check.due("a time that is bad, not too late, full", x.event('a', 0, -1), BAD_VALUE);
        check.due("a bad kind, full", x.event('i', 0, 100), BAD_VALUE);
        check.due("too late, full", x.event('a', 0, 79), TOO_LATE);
        check.due("full", x.event('a', 0, 80), FULL);
        x.forget(9999);
        check.due("a bad kind, too late", x.event('`', 0, 79), BAD_VALUE);
        check.due("a bad value, too late", x.event('a', 100, 79), BAD_VALUE);
        check.due("too late", x.event('a', 99, 79), TOO_LATE);
        check.due("its number", x.event('a', 99, 80), 0);
    }

    private void forgetTimes() {
        check.sentence("- `time`: 0 to 9999");
        for (int time = -30; time <= 11000; time++) {
            forgetAt(time, time >= 0 && time <= 9999);
        }
        for (int time : FAR) {
            forgetAt(time, false);
        }
    }

    private void forgetAt(int time, boolean isTime) {
        WindowMatches x = new WindowMatches();
        check.due("forget of none " + time, x.forget(time), isTime ? NONE : BAD_VALUE);
        x.event('a', 0, 5000);
        check.due("forget " + time, x.forget(time), !isTime ? BAD_VALUE : time > 5000 ? 1 : NONE);
        check.due("events after forget " + time, x.count(0), isTime && time > 5000 ? 0 : 1);
        check.due("states after forget " + time, x.count(7), isTime && time > 5000 ? 2 : 1);
    }

    private void forgetLess() {
        check.sentence("Forgets all events whose times are less than a time");
        WindowMatches x = new WindowMatches();
        x.event('a', 0, 0);
        check.due("0 is not less than 0", x.forget(0), NONE);
        check.due("0 is less than 1", x.forget(1), 1);
        Check.send(x, "a0@9999");
        check.due("9999 is not less than 9999", x.forget(9999), NONE);
        x = new WindowMatches();
        Check.send(x, "a0@12 a1@11 a2@10 a3@11 a4@9");
        check.due("those that are less than 11", x.forget(11), 2);
        check.due("three are left", x.count(0), 3);
        check.due("not one more", x.forget(11), NONE);
        check.due("all but the newest", x.forget(12), 2);
        check.due("the newest is left", x.eventOf(0, 2), 12);
        check.due("all", x.forget(13), 1);
    }

    private void forgetNumbersAnew() {
        check.sentence("the others keep their order, and are numbered anew, from 0");
        WindowMatches x = new WindowMatches();
        Check.send(x, "a1@12 b2@5 c3@12 d4@3 e5@10 f6@4 g7@11");
        check.due("three are forgotten", x.forget(6), 3);
        int[][] left = {{'a', 1, 12, 2}, {'c', 3, 12, 3}, {'e', 5, 10, 0}, {'g', 7, 11, 1}};
        for (int event = 0; event < left.length; event++) {
            for (int what = 0; what < 4; what++) {
                check.due("of " + event + ", " + what, x.eventOf(event, what), left[event][what]);
            }
        }
        check.due("behind the last one", x.eventOf(4, 0), UNKNOWN);
        check.due("the next number", x.event('h', 8, 1), 4);
        check.due("its place", x.eventOf(4, 3), 0);
    }

    private void forgetHowMany() {
        check.sentence("Returns how many are forgotten; BAD_VALUE; NONE if none is.");
        for (int events = 0; events <= 24; events++) {
            WindowMatches x = new WindowMatches();
            for (int i = 0; i < events; i++) {
                x.event('a', 0, 10);
            }
            int states = x.count(7);
            check.due("none of " + events, x.forget(10), NONE);
            check.due("no state more with " + events, x.count(7), states);
            check.due("bad with " + events, x.forget(-1), BAD_VALUE);
            check.due("all of " + events, x.forget(11), events == 0 ? NONE : events);
            check.due("states with " + events, x.count(7), events == 0 ? 0 : Math.min(4, states + 1));
            check.due("undo with " + events, x.undo(), events == 0 ? NONE : Math.min(3, states));
            check.due("all back of " + events, x.count(0), events);
        }
    }

    private void setLatenessAnswers() {
        check.sentence("Returns the previous one; BAD_VALUE; NONE if it is so already.");
        WindowMatches x = new WindowMatches();
        int previous = 20;
        for (int ticks : new int[] {0, 500, 1, 499, 21, 20, 19}) {
            check.due("the one ahead of " + ticks, x.setLateness(ticks), previous);
            check.due(ticks + " again", x.setLateness(ticks), NONE);
            check.due("bad after " + ticks, x.setLateness(501), BAD_VALUE);
            check.due("below after " + ticks, x.setLateness(-1), BAD_VALUE);
            check.due("the lateness", x.count(5), ticks);
            previous = ticks;
        }
    }

    private void eventOfNumbers() {
        check.sentence("- `event`: a number of an event");
        WindowMatches x = new WindowMatches();
        for (int events = 0; events <= 24; events++) {
            for (int event = 0; event < events; event++) {
                check.due(event + " of " + events, x.eventOf(event, 1), event);
            }
            check.due("-1 of " + events, x.eventOf(-1, 0), UNKNOWN);
            check.due("one behind " + events, x.eventOf(events, 0), UNKNOWN);
            x.event('a', events, 0);
        }
        for (int number : FAR) {
            check.due("event " + number, x.eventOf(number, 0), UNKNOWN);
        }
        x.undo();
        check.due("one that was undone", x.eventOf(23, 0), UNKNOWN);
        x.event('a', 0, 1);
        x.forget(1);
        check.due("one that was numbered anew", x.eventOf(1, 0), UNKNOWN);
        check.due("the only one", x.eventOf(0, 2), 1);
    }

    private void eventOfWhat() {
        check.sentence("Returns the number; UNKNOWN; BAD_VALUE.");
        WindowMatches x = new WindowMatches();
        check.due("unknown ahead of bad, without events", x.eventOf(0, -1), UNKNOWN);
        x.event('h', 99, 9999);
        int[] due = {'h', 99, 9999, 0, 0};
        for (int what = 0; what < due.length; what++) {
            check.due("what " + what, x.eventOf(0, what), due[what]);
        }
        check.due("what -1", x.eventOf(0, -1), BAD_VALUE);
        check.due("what 5", x.eventOf(0, 5), BAD_VALUE);
        for (int what : FAR) {
            check.due("what " + what, x.eventOf(0, what), BAD_VALUE);
            check.due("unknown ahead of what " + what, x.eventOf(1, what), UNKNOWN);
            check.due("-1 ahead of what " + what, x.eventOf(-1, what), UNKNOWN);
        }
    }
}
