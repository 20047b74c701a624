import java.util.ArrayList;
import java.util.Collections;
import java.util.List;

/** The document's words, followed as slowly as they stand: what ModelRunsTest holds the program against. */
final class Model {
    record Event(int number, char kind, int value, int time) {
    }

    record Step(char kind, boolean absent) {
    }

    record Made(int window, int rule, List<Step> steps) {
        List<Integer> plain() {
            List<Integer> plain = new ArrayList<>();
            for (int i = 0; i < steps.size(); i++) {
                if (!steps.get(i).absent()) {
                    plain.add(i);
                }
            }
            return plain;
        }
    }

    record State(List<Event> events, int newest, int lateness, List<Made> patterns) {
    }

    State now = new State(List.of(), 0, 20, List.of());
    State snapshot = null;
    final List<State> history = new ArrayList<>();
    String text = "";

    private int act(State next, int answer) {
        history.add(now);
        if (history.size() > 4) {
            history.remove(0);
        }
        now = next;
        return answer;
    }

    private int errorOfEvent(int kind, int value, int time) {
        if (kind < 'a' || kind > 'h' || value < 0 || value > 99 || time < 0 || time > 9999) {
            return -2;
        }
        return time < now.newest - now.lateness ? -4 : 0;
    }

    private List<Event> with(char kind, int value, int time) {
        List<Event> events = new ArrayList<>(now.events);
        events.add(new Event(events.size(), kind, value, time));
        return events;
    }

    int event(char kind, int value, int time) {
        int error = errorOfEvent(kind, value, time);
        if (error != 0) {
            return error;
        }
        if (now.events.size() == 24) {
            return -3;
        }
        return act(new State(with(kind, value, time), Math.max(now.newest, time), now.lateness, now.patterns),
                now.events.size());
    }

    int forget(int time) {
        if (time < 0 || time > 9999) {
            return -2;
        }
        List<Event> left = new ArrayList<>();
        for (Event e : now.events) {
            if (e.time >= time) {
                left.add(new Event(left.size(), e.kind, e.value, e.time));
            }
        }
        int gone = now.events.size() - left.size();
        return gone == 0 ? -5 : act(new State(left, now.newest, now.lateness, now.patterns), gone);
    }

    int setLateness(int ticks) {
        if (ticks < 0 || ticks > 500) {
            return -2;
        }
        return ticks == now.lateness ? -5
                : act(new State(now.events, now.newest, ticks, now.patterns), now.lateness);
    }

    /** Faults are not the model's: it is told the text's pattern, or its fault. */
    int addPattern(Made made, int fault) {
        if (made == null) {
            return -100 - fault;
        }
        if (now.patterns.size() == 4) {
            return -3;
        }
        List<Made> patterns = new ArrayList<>(now.patterns);
        patterns.add(made);
        return act(new State(now.events, now.newest, now.lateness, patterns), patterns.size() - 1);
    }

    private boolean isPattern(int pattern) {
        return pattern >= 0 && pattern < now.patterns.size();
    }

    int dropPattern(int pattern) {
        if (!isPattern(pattern)) {
            return -1;
        }
        List<Made> patterns = new ArrayList<>(now.patterns);
        patterns.remove(pattern);
        return act(new State(now.events, now.newest, now.lateness, patterns), patterns.size());
    }

    int setWindow(int pattern, int window) {
        if (!isPattern(pattern)) {
            return -1;
        }
        if (window < 1 || window > 1000) {
            return -2;
        }
        Made made = now.patterns.get(pattern);
        if (made.window == window) {
            return -5;
        }
        List<Made> patterns = new ArrayList<>(now.patterns);
        patterns.set(pattern, new Made(window, made.rule, made.steps));
        return act(new State(now.events, now.newest, now.lateness, patterns), made.window);
    }

    int undo() {
        if (history.isEmpty()) {
            return -5;
        }
        now = history.remove(history.size() - 1);
        return history.size();
    }

    int keep() {
        snapshot = now;
        return now.events.size();
    }

    int restore() {
        return snapshot == null ? -5 : act(snapshot, snapshot.events.size());
    }

    private static List<Event> ordered(List<Event> events) {
        List<Event> ordered = new ArrayList<>(events);
        Collections.sort(ordered, (a, b) -> a.time != b.time ? Integer.compare(a.time, b.time)
                : Integer.compare(a.number, b.number));
        return ordered;
    }

    /** All choices of so many places, rising, the least first. */
    private static List<int[]> choices(int places, int size) {
        List<int[]> found = new ArrayList<>();
        int[] choice = new int[size];
        for (int i = 0; i < size; i++) {
            choice[i] = i;
        }
        while (size <= places) {
            found.add(choice.clone());
            int at = size - 1;
            while (at >= 0 && choice[at] == places - size + at) {
                at--;
            }
            if (at < 0) {
                break;
            }
            choice[at]++;
            for (int i = at + 1; i < size; i++) {
                choice[i] = choice[i - 1] + 1;
            }
        }
        return found;
    }

    private static boolean begins(Made made, List<Event> order, int[] choice) {
        List<Integer> plain = made.plain();
        for (int i = 0; i < choice.length; i++) {
            Event e = order.get(choice[i]);
            if (e.kind != made.steps.get(plain.get(i)).kind()) {
                return false;
            }
            if (i > 0 && !follows(made, order.get(choice[i - 1]), e)) {
                return false;
            }
            if (i > 0 && isBarred(made, order, plain.get(i) - 1, choice[i - 1], choice[i])) {
                return false;
            }
        }
        return order.get(choice[choice.length - 1]).time - order.get(choice[0]).time <= made.window;
    }

    private static boolean follows(Made made, Event ahead, Event behind) {
        return made.rule == 0 || (made.rule == 1 ? behind.value > ahead.value : behind.value == ahead.value);
    }

    private static boolean isBarred(Made made, List<Event> order, int step, int from, int to) {
        if (!made.steps.get(step).absent()) {
            return false;
        }
        for (int place = from + 1; place < to; place++) {
            if (order.get(place).kind == made.steps.get(step).kind()) {
                return true;
            }
        }
        return false;
    }

    private static List<List<Event>> begun(Made made, List<Event> events, int size) {
        List<Event> order = ordered(events);
        List<List<Event>> found = new ArrayList<>();
        for (int[] choice : choices(order.size(), size)) {
            if (begins(made, order, choice)) {
                List<Event> chosen = new ArrayList<>();
                for (int place : choice) {
                    chosen.add(order.get(place));
                }
                found.add(chosen);
            }
        }
        return found;
    }

    private static List<List<Event>> matches(Made made, List<Event> events) {
        return begun(made, events, made.plain().size());
    }

    private int watermark() {
        return Math.max(0, now.newest - now.lateness);
    }

    int eventOf(int event, int what) {
        if (event < 0 || event >= now.events.size()) {
            return -1;
        }
        Event e = now.events.get(event);
        switch (what) {
            case 0: return e.kind;
            case 1: return e.value;
            case 2: return e.time;
            case 3: return ordered(now.events).indexOf(e);
            case 4: return matchesWith(e);
            default: return -2;
        }
    }

    private int matchesWith(Event e) {
        int sum = 0;
        for (Made made : now.patterns) {
            for (List<Event> match : matches(made, now.events)) {
                sum += match.contains(e) ? 1 : 0;
            }
        }
        return sum;
    }

    int pattern(int pattern, int what) {
        if (!isPattern(pattern)) {
            return -1;
        }
        Made made = now.patterns.get(pattern);
        switch (what) {
            case 0: return made.window;
            case 1: return made.rule;
            case 2: return made.steps.size();
            case 3: return made.plain().size();
            case 4: return matches(made, now.events).size();
            case 5: return sure(made);
            case 6: return branches(made);
            default: return -2;
        }
    }

    private int sure(Made made) {
        int sure = 0;
        for (List<Event> match : matches(made, now.events)) {
            sure += match.get(match.size() - 1).time <= watermark() ? 1 : 0;
        }
        return sure;
    }

    private int branches(Made made) {
        int branches = 0;
        for (int size = 1; size < made.plain().size(); size++) {
            for (List<Event> branch : begun(made, now.events, size)) {
                branches += branch.get(0).time + made.window >= now.newest ? 1 : 0;
            }
        }
        return branches;
    }

    int step(int pattern, int step, int what) {
        if (!isPattern(pattern)) {
            return -1;
        }
        List<Step> steps = now.patterns.get(pattern).steps;
        if (step < 0 || step >= steps.size() || what < 0 || what > 1) {
            return -2;
        }
        return what == 0 ? steps.get(step).kind() : steps.get(step).absent() ? 1 : 0;
    }

    int match(int pattern, int rank, int place) {
        if (!isPattern(pattern)) {
            return -1;
        }
        Made made = now.patterns.get(pattern);
        if (rank < 0 || place < 0 || place >= made.plain().size()) {
            return -2;
        }
        List<List<Event>> matches = matches(made, now.events);
        return rank >= matches.size() ? -5 : matches.get(rank).get(place).number;
    }

    private int matchesOfAll(List<Event> events) {
        int sum = 0;
        for (Made made : now.patterns) {
            sum += matches(made, events).size();
        }
        return sum;
    }

    int ifEvent(char kind, int value, int time) {
        int error = errorOfEvent(kind, value, time);
        return error != 0 ? error : matchesOfAll(with(kind, value, time));
    }

    int count(int what) {
        switch (what) {
            case 0: return now.events.size();
            case 1: return now.patterns.size();
            case 2: return matchesOfAll(now.events);
            case 3: return now.newest;
            case 4: return watermark();
            case 5: return now.lateness;
            case 6: return withoutMatch();
            case 7: return history.size();
            case 8: return text.length();
            default: return -2;
        }
    }

    private int withoutMatch() {
        int without = 0;
        for (Event e : now.events) {
            without += matchesWith(e) == 0 ? 1 : 0;
        }
        return without;
    }
}
