/** Matches of patterns in a stream of events. The promises in DOC.md say what each call does. */
public final class WindowMatches {
    /** There is no such event or pattern. */
    public static final int UNKNOWN = -1;
    /** Another argument is out of range. */
    public static final int BAD_VALUE = -2;
    /** There is no more room. */
    public static final int FULL = -3;
    /** The event is too late. */
    public static final int TOO_LATE = -4;
    /** There is no such thing; not an error. */
    public static final int NONE = -5;

    private static final int MAX_EVENTS = 24;
    private static final int MAX_VALUE = 99;
    private static final int MAX_TIME = 9999;
    private static final int MAX_LATENESS = 500;
    private static final int FIRST_LATENESS = 20;
    private static final int MAX_PATTERNS = 4;
    private static final int MAX_WINDOW = 1000;
    private static final int MAX_PLAIN = 4;
    // An absent step behind the fourth plain one can be read, though no pattern with it is complete.
    private static final int MAX_STEPS_READ = 8;
    private static final int MAX_TEXT = 80;
    private static final int MAX_HISTORY = 4;

    private static final int RULE_NONE = 0;
    private static final int RULE_RISING = 1;
    private static final int RULE_ALIKE = 2;

    private static final char NO_KIND = 0;
    private static final int FAULT_BASE = -100;
    private static final int NO_FAULT = -1;
    private static final int NO_ERROR = 0;
    private static final int NO_RANK = -1;

    private final State now = new State();
    private final State snapshot = new State();
    private boolean hasSnapshot = false;
    private final History history = new History();
    private final Words text = new Words();
    // These are made once and used again by every call, to keep the room of a run small.
    private final Pattern readPattern = new Pattern();
    private final Search search = new Search();

    public WindowMatches() {
    }

    // ---- events

    public int event(char kind, int value, int time) {
        int error = errorOfEvent(kind, value, time);
        if (error != NO_ERROR) {
            return error;
        }
        if (now.events >= MAX_EVENTS) {
            return FULL;
        }
        history.record(now);
        return now.addEvent(kind, value, time);
    }

    public int forget(int time) {
        if (!isWithin(time, 0, MAX_TIME)) {
            return BAD_VALUE;
        }
        int older = now.eventsAheadOf(time);
        if (older == 0) {
            return NONE;
        }
        history.record(now);
        now.removeEventsAheadOf(time);
        return older;
    }

    public int setLateness(int ticks) {
        if (!isWithin(ticks, 0, MAX_LATENESS)) {
            return BAD_VALUE;
        }
        int previous = now.lateness;
        if (previous == ticks) {
            return NONE;
        }
        history.record(now);
        now.lateness = ticks;
        return previous;
    }

    // ---- patterns

    public int addPattern() {
        int fault = text.readInto(readPattern);
        if (fault != NO_FAULT) {
            return FAULT_BASE - fault;
        }
        if (now.patternCount >= MAX_PATTERNS) {
            return FULL;
        }
        history.record(now);
        return now.addCopyOf(readPattern);
    }

    public int dropPattern(int pattern) {
        if (!isPattern(pattern)) {
            return UNKNOWN;
        }
        history.record(now);
        return now.removePattern(pattern);
    }

    public int setWindow(int pattern, int window) {
        if (!isPattern(pattern)) {
            return UNKNOWN;
        }
        if (!isWithin(window, 1, MAX_WINDOW)) {
            return BAD_VALUE;
        }
        int previous = now.patterns[pattern].window;
        if (previous == window) {
            return NONE;
        }
        history.record(now);
        now.patterns[pattern].window = window;
        return previous;
    }

    // ---- texts

    public int type(char character) {
        return text.append(character);
    }

    public int clearText() {
        int previous = text.length;
        text.length = 0;
        return previous;
    }

    // ---- history

    public int undo() {
        if (history.size == 0) {
            return NONE;
        }
        history.removeLatestInto(now);
        return history.size;
    }

    public int keep() {
        snapshot.copyFrom(now);
        hasSnapshot = true;
        return now.events;
    }

    public int restore() {
        if (!hasSnapshot) {
            return NONE;
        }
        history.record(now);
        now.copyFrom(snapshot);
        return now.events;
    }

    // ---- what is told

    public int eventOf(int event, int what) {
        if (event < 0 || event >= now.events) {
            return UNKNOWN;
        }
        switch (what) {
            case 0:
                return now.kinds[event];
            case 1:
                return now.values[event];
            case 2:
                return now.times[event];
            case 3:
                search.begin(now);
                return search.line.placeOf(event);
            case 4:
                search.begin(now);
                search.runAll(now);
                return search.shareOf(event);
            default:
                return BAD_VALUE;
        }
    }

    public int pattern(int pattern, int what) {
        if (!isPattern(pattern)) {
            return UNKNOWN;
        }
        Pattern asked = now.patterns[pattern];
        switch (what) {
            case 0:
                return asked.window;
            case 1:
                return asked.rule;
            case 2:
                return asked.steps;
            case 3:
                return asked.plainSteps;
            case 4:
                searchFor(asked);
                return search.matches;
            case 5:
                searchFor(asked);
                return search.sureMatches;
            case 6:
                searchFor(asked);
                return search.branches;
            default:
                return BAD_VALUE;
        }
    }

    public int step(int pattern, int step, int what) {
        if (!isPattern(pattern)) {
            return UNKNOWN;
        }
        Pattern asked = now.patterns[pattern];
        if (step < 0 || step >= asked.steps) {
            return BAD_VALUE;
        }
        switch (what) {
            case 0:
                return asked.kinds[step];
            case 1:
                return asked.absent[step] ? 1 : 0;
            default:
                return BAD_VALUE;
        }
    }

    public int match(int pattern, int rank, int place) {
        if (!isPattern(pattern)) {
            return UNKNOWN;
        }
        Pattern asked = now.patterns[pattern];
        if (rank < 0 || place < 0 || place >= asked.plainSteps) {
            return BAD_VALUE;
        }
        search.begin(now);
        search.want(rank, place);
        search.run(asked);
        return search.wantedEvent;
    }

    public int ifEvent(char kind, int value, int time) {
        int error = errorOfEvent(kind, value, time);
        if (error != NO_ERROR) {
            return error;
        }
        search.begin(now);
        search.line.insert(now.events, kind, value, time);
        return search.runAll(now);
    }

    public int count(int what) {
        switch (what) {
            case 0:
                return now.events;
            case 1:
                return now.patternCount;
            case 2:
                search.begin(now);
                return search.runAll(now);
            case 3:
                return now.newestTime;
            case 4:
                return now.watermark();
            case 5:
                return now.lateness;
            case 6:
                search.begin(now);
                search.runAll(now);
                return search.placesWithoutShare();
            case 7:
                return history.size;
            case 8:
                return text.length;
            default:
                return BAD_VALUE;
        }
    }

    private static boolean isWithin(int number, int least, int greatest) {
        return number >= least && number <= greatest;
    }

    private static boolean isKind(char character) {
        return character >= 'a' && character <= 'h';
    }

    private boolean isPattern(int pattern) {
        return pattern >= 0 && pattern < now.patternCount;
    }

    private int errorOfEvent(char kind, int value, int time) {
        if (!isKind(kind) || !isWithin(value, 0, MAX_VALUE) || !isWithin(time, 0, MAX_TIME)) {
            return BAD_VALUE;
        }
        return time < now.newestTime - now.lateness ? TOO_LATE : NO_ERROR;
    }

    private void searchFor(Pattern pattern) {
        search.begin(now);
        search.run(pattern);
    }

    private static final class Pattern {
        private int window = 1;
        private int rule = RULE_NONE;
        private int steps = 0;
        private int plainSteps = 0;
        private final char[] kinds = new char[MAX_STEPS_READ];
        private final boolean[] absent = new boolean[MAX_STEPS_READ];

        private void clearSteps() {
            steps = 0;
            plainSteps = 0;
        }

        private boolean hasRoomForStep() {
            return steps < MAX_STEPS_READ;
        }

        private boolean endsWithPlainStep() {
            return steps > 0 && steps <= MAX_STEPS_READ && !absent[steps - 1];
        }

        private void addStep(char kind, boolean isAbsent) {
            if (!hasRoomForStep()) {
                return;
            }
            kinds[steps] = kind;
            absent[steps] = isAbsent;
            steps++;
            if (!isAbsent) {
                plainSteps++;
            }
        }

        private void copyFrom(Pattern other) {
            window = other.window;
            rule = other.rule;
            steps = other.steps;
            plainSteps = other.plainSteps;
            for (int i = 0; i < MAX_STEPS_READ; i++) {
                kinds[i] = other.kinds[i];
                absent[i] = other.absent[i];
            }
        }
    }

    private static final class State {
        private int events = 0;
        private final char[] kinds = new char[MAX_EVENTS];
        private final int[] values = new int[MAX_EVENTS];
        private final int[] times = new int[MAX_EVENTS];
        private int newestTime = 0;
        private int lateness = FIRST_LATENESS;
        private int patternCount = 0;
        private final Pattern[] patterns = new Pattern[MAX_PATTERNS];

        private State() {
            for (int i = 0; i < MAX_PATTERNS; i++) {
                patterns[i] = new Pattern();
            }
        }

        private void copyFrom(State other) {
            events = other.events;
            for (int i = 0; i < other.events; i++) {
                kinds[i] = other.kinds[i];
                values[i] = other.values[i];
                times[i] = other.times[i];
            }
            newestTime = other.newestTime;
            lateness = other.lateness;
            patternCount = other.patternCount;
            for (int i = 0; i < other.patternCount; i++) {
                patterns[i].copyFrom(other.patterns[i]);
            }
        }

        private int watermark() {
            return Math.max(0, newestTime - lateness);
        }

        private int addEvent(char kind, int value, int time) {
            if (events >= MAX_EVENTS) {
                return FULL;
            }
            int number = events;
            putEvent(number, kind, value, time);
            events++;
            newestTime = Math.max(newestTime, time);
            return number;
        }

        private void putEvent(int number, char kind, int value, int time) {
            kinds[number] = kind;
            values[number] = value;
            times[number] = time;
        }

        private int eventsAheadOf(int time) {
            int older = 0;
            for (int i = 0; i < events; i++) {
                if (times[i] < time) {
                    older++;
                }
            }
            return older;
        }

        private void removeEventsAheadOf(int time) {
            int left = 0;
            for (int i = 0; i < events; i++) {
                if (times[i] >= time) {
                    putEvent(left, kinds[i], values[i], times[i]);
                    left++;
                }
            }
            events = left;
        }

        private int addCopyOf(Pattern pattern) {
            if (patternCount >= MAX_PATTERNS) {
                return FULL;
            }
            int number = patternCount;
            patterns[number].copyFrom(pattern);
            patternCount++;
            return number;
        }

        private int removePattern(int pattern) {
            for (int i = pattern; i + 1 < patternCount; i++) {
                patterns[i].copyFrom(patterns[i + 1]);
            }
            patternCount--;
            return patternCount;
        }
    }

    private static final class History {
        private final State[] states = new State[MAX_HISTORY];
        private int oldest = 0;
        private int size = 0;

        private History() {
            for (int i = 0; i < MAX_HISTORY; i++) {
                states[i] = new State();
            }
        }

        private void record(State state) {
            if (size >= MAX_HISTORY) {
                oldest = (oldest + 1) % MAX_HISTORY;
                size--;
            }
            states[(oldest + size) % MAX_HISTORY].copyFrom(state);
            size++;
        }

        private void removeLatestInto(State state) {
            if (size <= 0) {
                return;
            }
            size--;
            state.copyFrom(states[(oldest + size) % MAX_HISTORY]);
        }
    }

    /** The text; where reading it stops short, the place it stopped at is the fault. */
    private static final class Words {
        private final char[] characters = new char[MAX_TEXT];
        private int length = 0;
        private int at = 0;

        private int append(char character) {
            if (length >= MAX_TEXT) {
                return FULL;
            }
            characters[length] = character;
            length++;
            return length;
        }

        private int readInto(Pattern target) {
            at = 0;
            target.clearSteps();
            boolean isWhole = takesWord("within ") && takesWindow(target) && takesWord(" ")
                    && takesRule(target) && takesSteps(target);
            return isWhole ? NO_FAULT : at;
        }

        private char next() {
            return at < length ? characters[at] : NO_KIND;
        }

        private boolean takesWord(String word) {
            for (int i = 0; i < word.length(); i++) {
                if (at >= length || characters[at] != word.charAt(i)) {
                    return false;
                }
                at++;
            }
            return true;
        }

        private boolean takesWindow(Pattern target) {
            int window = 0;
            while (at < length && isWithin(characters[at], '0', '9')) {
                int longer = window * 10 + (characters[at] - '0');
                if (!isWithin(longer, 1, MAX_WINDOW)) {
                    return false;
                }
                window = longer;
                at++;
            }
            target.window = window;
            return window > 0;
        }

        private boolean takesRule(Pattern target) {
            target.rule = RULE_NONE;
            if (next() == 'r') {
                target.rule = RULE_RISING;
                return takesWord("rising ");
            }
            // An "a" alone may be the kind of the first step as well.
            if (next() == 'a' && at + 1 < length && characters[at + 1] == 'l') {
                target.rule = RULE_ALIKE;
                return takesWord("alike ");
            }
            return true;
        }

        private boolean takesSteps(Pattern target) {
            for (int i = 0; i <= MAX_STEPS_READ; i++) {
                if (!takesStep(target)) {
                    return false;
                }
                if (at >= length) {
                    return target.endsWithPlainStep() && target.steps > 1;
                }
                if (!takesWord(", ")) {
                    return false;
                }
            }
            return false;
        }

        private boolean takesStep(Pattern target) {
            boolean isAbsent = next() == 'n';
            if (isAbsent) {
                if (!target.endsWithPlainStep() || !takesWord("no ")) {
                    return false;
                }
            } else if (target.plainSteps >= MAX_PLAIN) {
                return false;
            }
            char kind = next();
            if (!isKind(kind) || !target.hasRoomForStep()) {
                return false;
            }
            target.addStep(kind, isAbsent);
            at++;
            return true;
        }
    }

    /** The events in their order; there is room for one more than are kept, for ifEvent. */
    private static final class Line {
        private static final int ROOM = MAX_EVENTS + 1;

        private int size = 0;
        private final int[] numbers = new int[ROOM];
        private final char[] kinds = new char[ROOM];
        private final int[] values = new int[ROOM];
        private final int[] times = new int[ROOM];

        private void fillFrom(State state) {
            size = 0;
            for (int i = 0; i < state.events; i++) {
                insert(i, state.kinds[i], state.values[i], state.times[i]);
            }
        }

        /** The number must be greater than those that stand here: it goes behind its equals in time. */
        private void insert(int number, char kind, int value, int time) {
            if (size >= ROOM) {
                return;
            }
            int place = size;
            while (place > 0 && times[place - 1] > time) {
                put(place, numbers[place - 1], kinds[place - 1], values[place - 1], times[place - 1]);
                place--;
            }
            put(place, number, kind, value, time);
            size++;
        }

        private void put(int place, int number, char kind, int value, int time) {
            numbers[place] = number;
            kinds[place] = kind;
            values[place] = value;
            times[place] = time;
        }

        private int placeOf(int number) {
            int place = 0;
            for (int i = 0; i < size; i++) {
                if (numbers[i] == number) {
                    place = i;
                }
            }
            return place;
        }
    }

    /** Walks the choices that begin a match, each ahead of its longer ones, so matches come in their order. */
    private static final class Search {
        private final Line line = new Line();
        private int newestTime = 0;
        private int watermark = 0;
        private int wantedRank = NO_RANK;
        private int wantedPlace = 0;
        private int wantedEvent = NONE;
        private int window = 0;
        private int rule = RULE_NONE;
        private int plainSteps = 0;
        private final char[] kinds = new char[MAX_PLAIN];
        private final char[] barsAhead = new char[MAX_PLAIN];
        private final int[] chosen = new int[MAX_PLAIN];
        private int matches = 0;
        private int sureMatches = 0;
        private int branches = 0;
        private final int[] shares = new int[Line.ROOM];

        private void begin(State state) {
            line.fillFrom(state);
            newestTime = state.newestTime;
            watermark = state.watermark();
            wantedRank = NO_RANK;
            wantedEvent = NONE;
            for (int i = 0; i < Line.ROOM; i++) {
                shares[i] = 0;
            }
        }

        private void want(int rank, int place) {
            wantedRank = rank;
            wantedPlace = place;
        }

        private int runAll(State state) {
            int sum = 0;
            for (int i = 0; i < state.patternCount; i++) {
                run(state.patterns[i]);
                sum += matches;
            }
            return sum;
        }

        private void run(Pattern pattern) {
            window = pattern.window;
            rule = pattern.rule;
            matches = 0;
            sureMatches = 0;
            branches = 0;
            takePlainSteps(pattern);
            if (plainSteps > 0) {
                walkFrom(this, 0);
            }
        }

        private void takePlainSteps(Pattern pattern) {
            plainSteps = 0;
            char bar = NO_KIND;
            for (int i = 0; i < pattern.steps; i++) {
                if (pattern.absent[i]) {
                    bar = pattern.kinds[i];
                } else if (plainSteps < MAX_PLAIN) {
                    kinds[plainSteps] = pattern.kinds[i];
                    barsAhead[plainSteps] = bar;
                    plainSteps++;
                    bar = NO_KIND;
                }
            }
        }

        /** Answers how many matches begin with what is chosen for the steps ahead of this one. */
        private static int walkFrom(Search search, int step) {
            if (step >= search.plainSteps || step >= MAX_PLAIN) {
                search.tellMatch();
                return 1;
            }
            Line line = search.line;
            int found = 0;
            int first = step == 0 ? 0 : search.chosen[step - 1] + 1;
            for (int place = first; place < line.size && search.isInWindow(step, place); place++) {
                if (search.suits(step, place)) {
                    search.chosen[step] = place;
                    search.tellBranch(step);
                    int longer = walkFrom(search, step + 1);
                    search.shares[place] += longer;
                    found += longer;
                }
                // An absent kind may itself be chosen here, but nothing behind it can be.
                if (line.kinds[place] == search.barsAhead[step]) {
                    break;
                }
            }
            return found;
        }

        private boolean isInWindow(int step, int place) {
            return step == 0 || line.times[place] <= line.times[chosen[0]] + window;
        }

        private boolean suits(int step, int place) {
            if (line.kinds[place] != kinds[step]) {
                return false;
            }
            if (step == 0 || rule == RULE_NONE) {
                return true;
            }
            int valueAhead = line.values[chosen[step - 1]];
            return rule == RULE_RISING ? line.values[place] > valueAhead : line.values[place] == valueAhead;
        }

        private void tellBranch(int step) {
            if (step + 1 < plainSteps && line.times[chosen[0]] + window >= newestTime) {
                branches++;
            }
        }

        private void tellMatch() {
            if (line.times[chosen[plainSteps - 1]] <= watermark) {
                sureMatches++;
            }
            if (matches == wantedRank) {
                wantedEvent = line.numbers[chosen[wantedPlace]];
            }
            matches++;
        }

        private int shareOf(int event) {
            return shares[line.placeOf(event)];
        }

        private int placesWithoutShare() {
            int without = 0;
            for (int i = 0; i < line.size; i++) {
                if (shares[i] == 0) {
                    without++;
                }
            }
            return without;
        }
    }
}
