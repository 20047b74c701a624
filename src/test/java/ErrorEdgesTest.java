/** A test for each sentence that names an error or NONE: their order, and that a refused call changes nothing. */
public final class ErrorEdgesTest {
    private static final int UNKNOWN = -1;
    private static final int BAD_VALUE = -2;
    private static final int FULL = -3;
    private static final int TOO_LATE = -4;
    private static final int NONE = -5;

    private final Check check = new Check();

    public static void main(String[] args) {
        ErrorEdgesTest test = new ErrorEdgesTest();
        test.constants();
        test.orderOfChecks();
        test.noneOnlyWithoutErrors();
        test.notSoMany();
        test.badValues();
        test.unknownOnes();
        test.tooLateOnes();
        test.refusedCalls();
        test.refusedCallsWhenFull();
        test.questionsChangeNothing();
        test.check.end();
    }

    private void orderOfChecks() {
        check.sentence("Where several errors can apply, the order of the @return line is the order of the checks.");
        WindowMatches x = new WindowMatches();
        for (int i = 0; i < 24; i++) {
            x.event('a', 0, 100);
        }
        for (int i = 0; i < 4; i++) {
            Check.add(x, "within 5 a, b");
        }
        check.due("event: bad, too late, full", x.event('i', 0, 0), BAD_VALUE);
        check.due("event: too late, full", x.event('a', 0, 0), TOO_LATE);
        check.due("event: full", x.event('a', 0, 100), FULL);
        check.due("ifEvent: bad, too late", x.ifEvent('i', 0, 0), BAD_VALUE);
        check.due("ifEvent: too late", x.ifEvent('a', 0, 0), TOO_LATE);
        x.type('.');
        check.due("addPattern: a fault, full", x.addPattern(), -113);
        check.due("setWindow: unknown, bad", x.setWindow(4, 0), UNKNOWN);
        check.due("setWindow: bad", x.setWindow(3, 0), BAD_VALUE);
        check.due("eventOf: unknown, bad", x.eventOf(24, 5), UNKNOWN);
        check.due("eventOf: bad", x.eventOf(23, 5), BAD_VALUE);
        check.due("pattern: unknown, bad", x.pattern(4, 7), UNKNOWN);
        check.due("pattern: bad", x.pattern(3, 7), BAD_VALUE);
        check.due("step: unknown, bad, bad", x.step(4, 2, 2), UNKNOWN);
        check.due("step: bad step, bad what", x.step(3, 2, 2), BAD_VALUE);
        check.due("step: bad what", x.step(3, 1, 2), BAD_VALUE);
        check.due("step: bad step", x.step(3, 2, 1), BAD_VALUE);
        check.due("match: unknown, bad, bad", x.match(4, -1, 2), UNKNOWN);
        check.due("match: bad rank, bad place", x.match(3, -1, 2), BAD_VALUE);
    }

    private void noneOnlyWithoutErrors() {
        check.sentence("it is returned only if no error applies");
        WindowMatches x = new WindowMatches();
        check.due("forget: bad, none", x.forget(-1), BAD_VALUE);
        check.due("forget: bad above, none", x.forget(10000), BAD_VALUE);
        check.due("forget: none", x.forget(9999), NONE);
        check.due("setWindow: unknown", x.setWindow(0, 1), UNKNOWN);
        Check.add(x, "within 5 a, b");
        check.due("setWindow: unknown, that of another one", x.setWindow(1, 5), UNKNOWN);
        check.due("setWindow: none", x.setWindow(0, 5), NONE);
        check.due("match: bad rank, none", x.match(0, -1, 0), BAD_VALUE);
        check.due("match: bad place, none", x.match(0, 0, 2), BAD_VALUE);
        check.due("match: unknown, none", x.match(1, 0, 0), UNKNOWN);
        check.due("match: none", x.match(0, 0, 1), NONE);
    }

    private void notSoMany() {
        check.sentence("NONE if there are not so many.");
        WindowMatches x = Check.with("within 5 a, b", "a0@1 b0@1");
        check.due("the only one", x.match(0, 0, 0), 0);
        check.due("a second one", x.match(0, 1, 0), NONE);
        x.event('b', 0, 1);
        check.due("the second one", x.match(0, 1, 1), 2);
        check.due("a third one", x.match(0, 2, 1), NONE);
        x.forget(2);
        check.due("none at all", x.match(0, 0, 0), NONE);
    }

    private void badValues() {
        check.sentence("`BAD_VALUE = -2`: Another argument is out of range.");
        WindowMatches x = Check.with("within 5 a, b", "a0@1 b0@1");
        for (int far : new int[] {Integer.MIN_VALUE, -1, 70000, Integer.MAX_VALUE}) {
            check.due("value " + far, x.event('a', far, 5), BAD_VALUE);
            check.due("time " + far, x.event('a', 5, far), BAD_VALUE);
            check.due("value of ifEvent " + far, x.ifEvent('a', far, 5), BAD_VALUE);
            check.due("time of ifEvent " + far, x.ifEvent('a', 5, far), BAD_VALUE);
            check.due("forget " + far, x.forget(far), BAD_VALUE);
            check.due("setLateness " + far, x.setLateness(far), BAD_VALUE);
            check.due("setWindow " + far, x.setWindow(0, far), BAD_VALUE);
            check.due("eventOf " + far, x.eventOf(0, far), BAD_VALUE);
            check.due("pattern " + far, x.pattern(0, far), BAD_VALUE);
            check.due("step " + far, x.step(0, far, 0), BAD_VALUE);
            check.due("what of step " + far, x.step(0, 0, far), BAD_VALUE);
            check.due("rank " + far, x.match(0, far, 0), far < 0 ? BAD_VALUE : NONE);
            check.due("place " + far, x.match(0, 0, far), BAD_VALUE);
            check.due("count " + far, x.count(far), BAD_VALUE);
        }
    }

    private void unknownOnes() {
        check.sentence("- `pattern`: a pattern");
        WindowMatches x = Check.with("within 5 a, b", "a0@1 b0@1");
        for (int far : new int[] {Integer.MIN_VALUE, -1, 1, 2, 4, 65536, Integer.MAX_VALUE}) {
            check.due("dropPattern " + far, x.dropPattern(far), UNKNOWN);
            check.due("setWindow " + far, x.setWindow(far, 7), UNKNOWN);
            check.due("pattern " + far, x.pattern(far, 0), UNKNOWN);
            check.due("step " + far, x.step(far, 0, 0), UNKNOWN);
            check.due("match " + far, x.match(far, 0, 0), UNKNOWN);
        }
        check.due("the only one", x.dropPattern(0), 0);
    }

    private void tooLateOnes() {
        check.sentence("`TOO_LATE = -4`: The event is too late.");
        WindowMatches x = new WindowMatches();
        x.event('a', 0, 9999);
        check.due("one below", x.event('a', 0, 9978), TOO_LATE);
        check.due("one below, ifEvent", x.ifEvent('a', 0, 9978), TOO_LATE);
        check.due("far below", x.event('h', 99, 0), TOO_LATE);
        check.due("no state", x.count(7), 1);
        check.due("at the edge", x.event('a', 0, 9979), 1);
    }

    private void refusedCalls() {
        check.sentence("A call that returns an error or NONE changes nothing.");
        Check.Call build = x -> Check.fill(x);
        refused("event, kind", build, x -> x.event('i', 0, 60), BAD_VALUE);
        refused("event, value", build, x -> x.event('a', 100, 60), BAD_VALUE);
        refused("event, time", build, x -> x.event('a', 0, 10000), BAD_VALUE);
        refused("event, late", build, x -> x.event('a', 0, 22), TOO_LATE);
        refused("forget, time", build, x -> x.forget(10000), BAD_VALUE);
        refused("forget, below", build, x -> x.forget(-1), BAD_VALUE);
        refused("forget, none", build, x -> x.forget(40), NONE);
        refused("setLateness, ticks", build, x -> x.setLateness(501), BAD_VALUE);
        refused("setLateness, below", build, x -> x.setLateness(-1), BAD_VALUE);
        refused("setLateness, none", build, x -> x.setLateness(30), NONE);
        refused("addPattern, fault", x -> Check.fill(x) + x.type(','), x -> x.addPattern(), -118);
        refused("addPattern, empty", x -> Check.fill(x) + x.clearText(), x -> x.addPattern(), -100);
        refused("dropPattern", build, x -> x.dropPattern(2), UNKNOWN);
        refused("dropPattern, below", build, x -> x.dropPattern(-1), UNKNOWN);
        refused("setWindow, pattern", build, x -> x.setWindow(2, 7), UNKNOWN);
        refused("setWindow, window", build, x -> x.setWindow(0, 1001), BAD_VALUE);
        refused("setWindow, 0", build, x -> x.setWindow(1, 0), BAD_VALUE);
        refused("setWindow, none", build, x -> x.setWindow(1, 12), NONE);
        refused("undo, none", x -> fillWithoutHistory(x), x -> x.undo(), NONE);
        refused("restore, none", x -> x.event('a', 0, 5), x -> x.restore(), NONE);
        refused("ifEvent, kind", build, x -> x.ifEvent('i', 0, 60), BAD_VALUE);
        refused("ifEvent, late", build, x -> x.ifEvent('a', 0, 22), TOO_LATE);
        refused("eventOf, number", build, x -> x.eventOf(5, 0), UNKNOWN);
        refused("eventOf, what", build, x -> x.eventOf(0, 5), BAD_VALUE);
        refused("pattern, number", build, x -> x.pattern(2, 0), UNKNOWN);
        refused("pattern, what", build, x -> x.pattern(0, 7), BAD_VALUE);
        refused("step, step", build, x -> x.step(0, 3, 0), BAD_VALUE);
        refused("match, none", build, x -> x.match(0, 1000, 0), NONE);
        refused("match, place", build, x -> x.match(0, 0, 2), BAD_VALUE);
        refused("count, what", build, x -> x.count(9), BAD_VALUE);
    }

    private void refusedCallsWhenFull() {
        check.sentence("`FULL = -3`: There is no more room.");
        refused("event", x -> {
            x.keep();
            int last = 0;
            for (int i = 0; i < 24; i++) {
                last = x.event("ab".charAt(i % 2), i, 9 + i / 3);
            }
            return last;
        }, x -> x.event('c', 0, 50), FULL);
        refused("addPattern", x -> Check.fill(x) + x.addPattern() + x.addPattern(), x -> x.addPattern(), FULL);
        refused("type", x -> {
            Check.fill(x);
            int length = 0;
            while (length < 80) {
                length = x.type(' ');
            }
            return length;
        }, x -> x.type('c'), FULL);
    }

    private static int fillWithoutHistory(WindowMatches x) {
        Check.fill(x);
        while (x.count(7) > 0) {
            x.undo();
        }
        return 0;
    }

    /** The object must tell as before, and so must each state that undo and restore bring back, and its text. */
    private void refused(String name, Check.Call build, Check.Call call, int due) {
        for (int undone = 0; undone <= 5; undone++) {
            WindowMatches x = new WindowMatches();
            WindowMatches y = new WindowMatches();
            check.holds(name + ": it is built", build.on(x) >= 0 && build.on(y) >= 0);
            check.due(name, call.on(x), due);
            for (int i = 0; i < undone; i++) {
                check.due(name + ": undo", x.undo(), y.undo());
            }
            check.same(name + ": after " + undone + " undone", Check.told(x), Check.told(y));
        }
        WindowMatches x = new WindowMatches();
        WindowMatches y = new WindowMatches();
        build.on(x);
        build.on(y);
        check.due(name, call.on(x), due);
        check.due(name + ": the text", x.addPattern(), y.addPattern());
        check.due(name + ": restore", x.restore(), y.restore());
        check.same(name + ": restored", Check.told(x), Check.told(y));
    }

    private void questionsChangeNothing() {
        check.sentence("`match`, `ifEvent`, `count` the interface says: ---- what is told");
        WindowMatches x = Check.filled();
        String told = Check.told(x);
        check.same("told once more", Check.told(x), told);
        x.ifEvent('c', 99, 54);
        x.ifEvent('b', 99, 41);
        check.same("told behind ifEvent", Check.told(x), told);
    }

    private void constants() {
        check.sentence("`NONE = -5`: There is no such thing; not an error.");
        check.due("UNKNOWN", WindowMatches.UNKNOWN, UNKNOWN);
        check.due("BAD_VALUE", WindowMatches.BAD_VALUE, BAD_VALUE);
        check.due("FULL", WindowMatches.FULL, FULL);
        check.due("TOO_LATE", WindowMatches.TOO_LATE, TOO_LATE);
        check.due("NONE", WindowMatches.NONE, NONE);
    }
}
