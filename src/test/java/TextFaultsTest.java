import java.util.Random;
import java.util.regex.Matcher;
import java.util.regex.Pattern;

/** Promise 5: the faults of texts, told one by one, and against regular expressions for many more. */
public final class TextFaultsTest {
    private static final String HEAD = "within (1000|[1-9][0-9]{0,2}) (rising |alike )?";
    private static final String STEP = "[a-h](, (no [a-h], )?[a-h])";
    private static final Pattern WHOLE = Pattern.compile(HEAD + STEP + "{1,3}");
    // What can be read without a fault ahead of its end: an absent step may stand behind the fourth plain one.
    private static final Pattern READABLE = Pattern.compile(HEAD + STEP + "{0,3}(, no [a-h](, )?)?");
    private static final int NONE = -1;

    private final Check check = new Check();

    public static void main(String[] args) {
        TextFaultsTest test = new TextFaultsTest();
        test.words();
        test.windows();
        test.rules();
        test.steps();
        test.lengths();
        test.everyBeginningAndEveryOtherSign();
        test.randomTexts();
        test.check.end();
    }

    private void words() {
        due("", 0);
        due("x", 0);
        due("W", 0);
        due(" within", 0);
        due("within", 6);
        due("with", 4);
        due("withim", 5);
        due("within9 a, b", 6);
        due("within ", 7);
        due("within  9 a, b", 7);
        due("within\t9 a, b", 6);
    }

    private void windows() {
        due("within 0", 7);
        due("within 09 a, b", 7);
        due("within -1 a, b", 7);
        due("within +1 a, b", 7);
        due("within a, b", 7);
        due("within 1", 8);
        due("within 1a", 8);
        due("within 1, a, b", 8);
        due("within 1001 a, b", 10);
        due("within 1010 a, b", 10);
        due("within 2000 a, b", 10);
        due("within 101", 10);
        due("within 1009 a, b", 10);
        due("within 10000 a, b", 11);
        due("within 1000", 11);
        due("within 1000 ", 12);
        due("within 999 ", 11);
        due("within 99999999999 a, b", 10);
        due("within 1 a, b", NONE);
        due("within 999 a, b", NONE);
        due("within 1000 a, b", NONE);
    }

    private void rules() {
        due("within 9 r", 10);
        due("within 9 rising", 15);
        due("within 9 rising ", 16);
        due("within 9 rising, a", 15);
        due("within 9 rise", 12);
        due("within 9 al", 11);
        due("within 9 alike", 14);
        due("within 9 alike ", 15);
        due("within 9 ali, b", 12);
        due("within 9 alike alike a, b", 16);
        due("within 9 rising alike a, b", 17);
        due("within 9 alike rising a, b", 15);
        due("within 9 none a, b", 9);
        due("within 9 Rising a, b", 9);
        due("within 9 rising  a, b", 16);
        due("within 9 a", 10);
        due("within 9 ab", 10);
        due("within 9 a, alike", 13);
        due("within 9 rising a, b", NONE);
        due("within 9 alike a, b", NONE);
    }

    private void steps() {
        due("within 9 i, a", 9);
        due("within 9 A, b", 9);
        due("within 9 no a, b", 9);
        due("within 9 rising no a, b", 16);
        due("within 9 a ", 10);
        due("within 9 a,b", 11);
        due("within 9 a,", 11);
        due("within 9 a, ", 12);
        due("within 9 a,  b", 12);
        due("within 9 a, b ", 13);
        due("within 9 a, b.", 13);
        due("within 9 a, i", 12);
        due("within 9 a, n", 13);
        due("within 9 a, nb", 13);
        due("within 9 a, no", 14);
        due("within 9 a, nob", 14);
        due("within 9 a, no ", 15);
        due("within 9 a, no  b", 15);
        due("within 9 a, no i", 15);
        due("within 9 a, no no b", 15);
        due("within 9 a, no b", 16);
        due("within 9 a, no b,", 17);
        due("within 9 a, no b, ", 18);
        due("within 9 a, no b, no c, d", 18);
        due("within 9 a, no b, c", NONE);
        due("within 9 a, no a, a", NONE);
        due("within 9 a, b, c, d", NONE);
        due("within 9 a, b, c, d,", 20);
        due("within 9 a, b, c, d, e", 21);
        due("within 9 a, b, c, d, i", 21);
        due("within 9 a, b, c, d, n", 22);
        due("within 9 a, b, c, d, no e", 25);
        due("within 9 a, b, c, d, no e, ", 27);
        due("within 9 a, b, c, d, no e, f", 27);
        due("within 9 a, b, c, d, no e, no f", 27);
        due("within 9 a, no b, c, no d, e, no f, g", NONE);
        due("within 9 a, no b, c, no d, e, no f, g, no h", 43);
        due("within 9 a, no b, c, no d, e, no f, g, no h, a", 45);
        due("within 9 a, no b, c, no d, e, no f, g, no h, no a", 45);
    }

    /** The text is cut at 80 characters by type. */
    private void lengths() {
        StringBuilder text = new StringBuilder("within 9 a, b");
        while (text.length() < 80) {
            text.append(' ');
        }
        due(text.toString(), 13);
        WindowMatches x = new WindowMatches();
        Check.write(x, text + "!");
        check.due("80 characters", x.count(8), 80);
    }

    private void everyBeginningAndEveryOtherSign() {
        String[] texts = {
            "within 1000 rising a, no b, c, no d, e, no f, g, no h, ",
            "within 305 alike h, no h, a, b, no c, d",
            "within 7 a, e, no n, a",
        };
        for (String text : texts) {
            for (int end = 0; end <= text.length(); end++) {
                dueAsExpressions(text.substring(0, end));
                for (char sign = 0; sign < 300 && end < text.length(); sign++) {
                    dueAsExpressions(text.substring(0, end) + sign + text.substring(end + 1));
                    dueAsExpressions(text.substring(0, end) + sign);
                }
            }
        }
    }

    private void randomTexts() {
        Random random = new Random(5);
        String[] parts = {"within ", "within", " ", "1", "0", "1000", "99", " rising ", " alike ", "alike", ", ",
            ",", "a", "b", "h", "i", "no ", "no c", ", no d", ", e", ", f, no a", "n"};
        for (int i = 0; i < 40000; i++) {
            StringBuilder text = new StringBuilder("within 5 ");
            if (random.nextInt(8) == 0) {
                text.setLength(random.nextInt(9));
            } else if (random.nextInt(2) == 0) {
                text.append("a");
            }
            for (int part = random.nextInt(9); part > 0; part--) {
                text.append(parts[random.nextInt(parts.length)]);
            }
            if (text.length() <= 80) {
                dueAsExpressions(text.toString());
            }
        }
    }

    private void dueAsExpressions(String text) {
        due(text, faultByExpressions(text));
    }

    private static int faultByExpressions(String text) {
        if (WHOLE.matcher(text).matches()) {
            return NONE;
        }
        for (int end = 1; end <= text.length(); end++) {
            Matcher beginning = READABLE.matcher(text.substring(0, end));
            if (!beginning.matches() && !beginning.hitEnd()) {
                return end - 1;
            }
        }
        return text.length();
    }

    private void due(String text, int fault) {
        WindowMatches x = new WindowMatches();
        check.due("addPattern of \"" + text + "\"", Check.add(x, text), fault == NONE ? 0 : -100 - fault);
        check.due("patterns with \"" + text + "\"", x.count(1), fault == NONE ? 1 : 0);
    }
}
