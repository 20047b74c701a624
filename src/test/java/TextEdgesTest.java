/** A test for each sentence that names an edge: of texts and of the faults in them. Promises 5, 8 and 9. */
public final class TextEdgesTest {
    private static final int FULL = -3;
    private static final int NO_FAULT = -1;

    private final Check check = new Check();

    public static void main(String[] args) {
        TextEdgesTest test = new TextEdgesTest();
        test.atMost80();
        test.emptyAtFirst();
        test.anyCharacter();
        test.clearText();
        test.nothingIsLeft();
        test.textsAreNoActs();
        test.head();
        test.ruleOrNone();
        test.stepsBetween();
        test.kindsRead();
        test.noZero();
        test.greaterThanTold();
        test.wordsBeginSo();
        test.endsTooEarly();
        test.emptyAndOneStep();
        test.absentFirst();
        test.absentBehindAbsent();
        test.fifthPlain();
        test.absentBehindFourth();
        test.endsBehind();
        test.firstFaultCounts();
        test.oneKindOfBlank();
        test.check.end();
    }

    private void fault(String text, int want) {
        WindowMatches x = new WindowMatches();
        check.due("addPattern of \"" + text + "\"", Check.add(x, text), want == NO_FAULT ? 0 : -100 - want);
        check.due("patterns with \"" + text + "\"", x.count(1), want == NO_FAULT ? 1 : 0);
        check.due("states with \"" + text + "\"", x.count(7), want == NO_FAULT ? 1 : 0);
        check.due("the length of \"" + text + "\"", x.count(8), text.length());
    }

    /** The text and whatever stands behind it has the same fault: there is no way on. */
    private void noWayOn(String text, int want) {
        fault(text, want);
        fault(text + "a", want);
        fault(text + ", a", want);
        fault(text + " ", want);
    }

    private void atMost80() {
        check.sentence("Returns the length of the text then; FULL if it has 80 characters.");
        WindowMatches x = new WindowMatches();
        for (int length = 1; length <= 80; length++) {
            check.due("length", x.type('w'), length);
            check.due("count", x.count(8), length);
        }
        check.due("the 81st", x.type('w'), FULL);
        check.due("once more", x.type((char) 0), FULL);
        check.due("the length still", x.count(8), 80);
        check.due("the length that it had", x.clearText(), 80);
        check.due("room again", x.type('w'), 1);
        x = new WindowMatches();
        Check.write(x, "within 5 a, b");
        while (x.type('!') != FULL) {
            check.due("the fault of a long text", x.addPattern(), -113);
        }
        check.due("the fault of a full text", x.addPattern(), -113);
    }

    private void emptyAtFirst() {
        check.sentence("There is a text of at most 80 characters, empty at first.");
        WindowMatches x = new WindowMatches();
        check.due("the length", x.count(8), 0);
        check.due("the fault", x.addPattern(), -100);
        check.due("the length that it had", x.clearText(), 0);
        check.due("the first character", x.type(' '), 1);
    }

    private void anyCharacter() {
        check.sentence("- `character`: any character");
        for (int code = 0; code <= 65535; code++) {
            WindowMatches x = new WindowMatches();
            check.due("type " + code, x.type((char) code), 1);
            check.due("the length with " + code, x.count(8), 1);
            check.due("its fault with " + code, x.addPattern(), code == 'w' ? -101 : -100);
        }
    }

    private void clearText() {
        check.sentence("Returns the length that it had.");
        for (int length = 0; length <= 80; length++) {
            WindowMatches x = new WindowMatches();
            for (int i = 0; i < length; i++) {
                x.type('w');
            }
            check.due("the length that it had", x.clearText(), length);
            check.due("no length then", x.count(8), 0);
            check.due("empty again", x.clearText(), 0);
            check.due("nothing is left", x.addPattern(), -100);
        }
    }

    /** What was typed ahead of clearText must not be read behind the end of what is typed then. */
    private void nothingIsLeft() {
        check.sentence("Empties the text.");
        String[] longer = {"within 55 rising a, b", "within 5 alike a, b", "within 5 a, no b, c",
            "within 1000 a, a, a, a"};
        for (String whole : longer) {
            for (int length = 0; length <= 12; length++) {
                WindowMatches x = new WindowMatches();
                check.due("the longer one", Check.add(x, whole), 0);
                check.due("its length", x.clearText(), whole.length());
                for (int i = 0; i < length; i++) {
                    x.type("within 5 a, b".charAt(i));
                }
                check.due("the first " + length + " characters behind " + whole, x.addPattern(), -100 - length);
            }
        }
    }

    private void textsAreNoActs() {
        check.sentence("A state is everything but the text, the history and the snapshot.");
        WindowMatches x = new WindowMatches();
        x.event('a', 0, 5);
        x.keep();
        Check.write(x, "within 5 a, b");
        check.due("no state more", x.count(7), 1);
        check.due("undo of the event", x.undo(), 0);
        check.due("the text stays", x.count(8), 13);
        x.clearText();
        check.due("restore", x.restore(), 1);
        check.due("the text that was when it was kept is not back", x.count(8), 0);
        x.type('w');
        check.due("undo of restore", x.undo(), 0);
        check.due("the text of before", x.count(8), 1);
    }

    private void head() {
        check.sentence("A pattern in words is \"within\", a blank, a window, a blank,");
        fault("within 5 a, b", NO_FAULT);
        fault("within5 a, b", 6);
        fault("within  5 a, b", 7);
        fault("within 5a, b", 8);
        fault("within 5  a, b", 9);
        fault(" within 5 a, b", 0);
        fault("5 a, b", 0);
        fault("within a, b", 7);
    }

    private void ruleOrNone() {
        check.sentence("and perhaps \"rising\" or \"alike\" and a blank");
        fault("within 5 rising a, b", NO_FAULT);
        fault("within 5 alike a, b", NO_FAULT);
        fault("within 5 risinga, b", 15);
        fault("within 5 alikea, b", 14);
        fault("within 5 rising  a, b", 16);
        fault("within 5 alike  a, b", 15);
        fault("within 5 rising rising a, b", 16);
        fault("within 5 alike alike a, b", 16);
        fault("within 5 alike rising a, b", 15);
        fault("within 5 rising alike a, b", 17);
        fault("within 5 alike, b", 14);
        fault("within 5 a alike, b", 10);
        fault("within rising 5 a, b", 7);
    }

    private void stepsBetween() {
        check.sentence("then the steps with \", \" between two");
        fault("within 5 a, b", NO_FAULT);
        fault("within 5 a,b", 11);
        fault("within 5 a b", 10);
        fault("within 5 a , b", 10);
        fault("within 5 a,  b", 12);
        fault("within 5 a,, b", 11);
        fault("within 5 ab", 10);
        fault("within 5 , a, b", 9);
        fault("within 5 a, b, ", 15);
        fault("within 5 a, b;", 13);
    }

    private void kindsRead() {
        check.sentence("a kind (a to h), or \"no \" and a kind (absent)");
        for (char kind = 0; kind < 300; kind++) {
            boolean isKind = kind >= 'a' && kind <= 'h';
            fault("within 5 " + kind + ", b", isKind ? NO_FAULT : kind == 'r' ? 10 : 9);
            fault("within 5 rising " + kind + ", b", isKind ? NO_FAULT : 16);
            fault("within 5 a, " + kind, isKind ? NO_FAULT : kind == 'n' ? 13 : 12);
            fault("within 5 a, no " + kind + ", b", isKind ? NO_FAULT : 15);
        }
        fault("within 5 a, no  b, c", 15);
        fault("within 5 a, nob, c", 14);
        fault("within 5 a, No b, c", 12);
    }

    private void noZero() {
        check.sentence("The window has no zero in front and is not 0");
        fault("within 0", 7);
        fault("within 0 a, b", 7);
        fault("within 01 a, b", 7);
        fault("within 00 a, b", 7);
        fault("within 1 a, b", NO_FAULT);
        fault("within 10 a, b", NO_FAULT);
        fault("within 100 a, b", NO_FAULT);
        fault("within 101 a, b", NO_FAULT);
    }

    private void greaterThanTold() {
        check.sentence("a digit by which a number would be greater than told is not allowed");
        for (int window = 1; window <= 12000; window++) {
            WindowMatches x = new WindowMatches();
            int fault = window < 10000 ? 10 : window / 10 == 1000 ? 11 : 10;
            check.due("window " + window, Check.add(x, "within " + window + " a, b"),
                    window <= 1000 ? 0 : -100 - fault);
            check.due("of window " + window, x.pattern(0, 0), window <= 1000 ? window : -1);
        }
        fault("within 1001", 10);
        fault("within 999", 10);
        fault("within 9999", 10);
        fault("within 10000", 11);
        fault("within 2147483648 a, b", 10);
        fault("within 4294967297 a, b", 10);
        fault("within 4294967301 a, b", 10);
        fault("within 18446744073709551621 a, b", 10);
        fault("within 10000000000 a, b", 11);
    }

    private void wordsBeginSo() {
        check.sentence("(of a word: with which no word that can stand there begins so)");
        wordAt("", "within", "");
        wordAt("within 5 ", "rising", "r");
        wordAt("within 5 ", "alike", "al");
        wordAt("within 5 a, ", "no", "n");
        wordAt("within 5 a, b, c, d, ", "no", "n");
        fault("within 5 ax", 10);
        fault("within 5 a, al", 13);
        fault("within 5 a, rising b", 12);
        fault("within 5 a, no no b", 15);
        fault("within 5 al, b", 11);
    }

    /** Where a word is wrong from some character on, that one is the fault; it may be short of any of its last ones. */
    private void wordAt(String ahead, String word, String sure) {
        for (int length = sure.length(); length < word.length(); length++) {
            String text = ahead + word.substring(0, length);
            fault(text, text.length());
            fault(text + "?", text.length());
            fault(text + "?" + word.substring(length), text.length());
            fault(text + word.toUpperCase().charAt(length), text.length());
            fault(text + (char) (word.charAt(length) + 256), text.length());
            fault(text + " ", text.length());
        }
        fault(ahead + word, ahead.length() + word.length());
        fault(ahead + word + word, ahead.length() + word.length());
    }

    private void endsTooEarly() {
        check.sentence("or the length of the text if it ends too early");
        String whole = "within 1000 rising a, no b, c, no d, e, no f, g";
        for (int length = 0; length <= whole.length(); length++) {
            boolean isWhole = length == 29 || length == 38 || length == 47;
            fault(whole.substring(0, length), isWhole ? -1 : length);
        }
    }

    private void emptyAndOneStep() {
        check.sentence("(the empty text does, and a pattern with one step)");
        fault("", 0);
        fault("within 5 a", 10);
        fault("within 5 h", 10);
        fault("within 1000 rising a", 20);
        fault("within 5 alike a", 16);
        fault("within 5 a, b", NO_FAULT);
    }

    private void absentFirst() {
        check.sentence("An absent first step,");
        noWayOn("within 5 no a", 9);
        noWayOn("within 5 n", 9);
        noWayOn("within 5 rising no a", 16);
        noWayOn("within 5 alike no a", 15);
        noWayOn("within 5 alike n", 15);
    }

    private void absentBehindAbsent() {
        check.sentence("an absent step behind an absent one (the fault is at its \"n\")");
        noWayOn("within 5 a, no b, no c", 18);
        noWayOn("within 5 a, no b, no b", 18);
        noWayOn("within 5 a, no b, n", 18);
        noWayOn("within 5 a, b, no c, no d", 21);
        noWayOn("within 5 a, b, c, no c, no d", 24);
        noWayOn("within 5 a, b, c, d, no c, no d", 27);
        fault("within 5 a, no b, c, no d, e", NO_FAULT);
    }

    private void fifthPlain() {
        check.sentence("and a fifth plain step (the fault is at its kind;");
        fault("within 5 a, b, c, d", NO_FAULT);
        noWayOn("within 5 a, b, c, d, e", 21);
        noWayOn("within 5 a, b, c, d, a", 21);
        noWayOn("within 5 a, b, c, d, h", 21);
        noWayOn("within 5 a, b, c, d, no e, f", 27);
        noWayOn("within 5 a, no b, b, c, d, e", 27);
        noWayOn("within 5 a, no b, c, no d, e, no f, g, a", 39);
    }

    private void absentBehindFourth() {
        check.sentence("an absent step behind the fourth one can be read) are not allowed");
        String text = "within 5 a, b, c, d, no e, ";
        for (int length = 20; length <= text.length(); length++) {
            fault(text.substring(0, length), length);
        }
        fault("within 5 a, b, c, d, no i", 24);
        fault("within 5 a, b, c, d, nx", 22);
        fault("within 5 a, b, c, d, no e f", 25);
        fault("within 5 a, b, c, d, no e,f", 26);
        text = "within 5 a, no b, c, no d, e, no f, g, no h, ";
        for (int length = 38; length <= text.length(); length++) {
            fault(text.substring(0, length), length);
        }
    }

    private void endsBehind() {
        check.sentence("a text that ends behind an absent step, or a \",\" or a blank, ends too early");
        fault("within 5 a, no b", 16);
        fault("within 5 a, b, no c", 19);
        fault("within 5 a, b, c, no d", 22);
        fault("within 5 a, b, c, d, no e", 25);
        fault("within 5 a,", 11);
        fault("within 5 a, b,", 14);
        fault("within 5 a, b, c,", 17);
        fault("within 5 a, b, c, d,", 20);
        fault("within 5 a, no b,", 17);
        fault("within ", 7);
        fault("within 5 ", 9);
        fault("within 5 rising ", 16);
        fault("within 5 a, ", 12);
        fault("within 5 a, b, ", 15);
        fault("within 5 a, b, c, d, ", 21);
        fault("within 5 a, no ", 15);
        fault("within 5 a, no b, ", 18);
    }

    private void firstFaultCounts() {
        check.sentence("The fault of the text is the index, from 0, of the first character that is not allowed at");
        fault("within 0 no i", 7);
        fault("within 5 i, no", 9);
        fault("within 5 a, b ", 13);
        fault("within 5 a, b  ", 13);
        fault("within 5 a, b\n", 13);
        fault("within 5 a, b.", 13);
        fault("within 5 a, b" + (char) 0, 13);
        fault("xwithin 5 a, b", 0);
        fault("within 5 a, b" + "!".repeat(67), 13);
        fault(" ".repeat(80), 0);
        fault("within 5 " + "a, ".repeat(23), 21);
    }

    private void oneKindOfBlank() {
        check.sentence("The fault of the text is the index, from 0, of the first character that is not allowed");
        for (char sign : new char[] {0, '\t', '\n', '\r', 160, 32 + 256, 8195, 65535}) {
            fault("within" + sign + "5 a, b", 6);
            fault("within 5" + sign + "a, b", 8);
            fault("within 5 rising" + sign + "a, b", 15);
            fault("within 5 a," + sign + "b", 11);
            fault("within 5 a, no" + sign + "b, c", 14);
        }
        for (char sign : new char[] {(char) ('5' + 256), 1637, 65301, '/', ':', '-', '+', '.'}) {
            fault("within " + sign + " a, b", 7);
            fault("within 5" + sign + " a, b", 8);
        }
    }
}
