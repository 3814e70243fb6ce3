import java.util.NoSuchElementException;

/** The edges of texts, of type() and of rule(): a test for each sentence that names one. */
public final class TypingEdgesTest {
    private static final Due due = new Due();
    private static final String LETTERS = "abcdefghi";
    private static final String RULES = "ABCDEF";
    private static final String ALL = LETTERS + RULES + "=/&!*+?.[-]()";
    /** What a unit can begin with; a part; and what can stand behind a unit, or behind its sign. */
    private static final String UNIT = LETTERS + RULES + ".[(";
    private static final String PART = UNIT + "&!";
    private static final String BEHIND_UNIT = PART + "/*+?";
    private static final String BEHIND_SIGN = PART + "/";

    public static void main(String[] args) {
        letters();
        rules();
        padOf24();
        withoutBlanks();
        rowsWithBetween();
        oneOrMoreParts();
        signsOfParts();
        units();
        lettersNotLess();
        fourDeep();
        firstThatCantStand();
        somethingMissing();
        typeIsTrue();
        typeIsFalse();
        inPlaceOfAnother();
        faultChangesNoRule();
        padIsEmptyThen();
        due.end();
    }

    private static void typed(char c, boolean want) {
        ChoiceParser x = new ChoiceParser();
        due.is("type(" + (int) c + ")", x.type(c), want);
        due.is("pad after type(" + (int) c + ")", x.count(1), want ? 1 : 0);
    }

    private static void ruled(String text, int want) {
        ChoiceParser x = new ChoiceParser();
        due.is("rule() of " + text, Use.rule(x, text), want);
        due.is("rules after " + text, x.count(0), want == 0 ? 1 : 0);
    }

    private static void goes(String text, String input, int want) {
        due.is(text + " on " + input, Use.goes(text, input), want);
    }

    private static void letters() {
        due.sentence("Terms", "LETTERS are a .. i.");
        typed('`', false);
        typed('a', true);
        typed('b', true);
        typed('h', true);
        typed('i', true);
        typed('j', false);
        for (char c : LETTERS.toCharArray()) {
            for (char d : LETTERS.toCharArray()) {
                goes("A=" + c, String.valueOf(d), c == d ? 1 : -1);
            }
        }
    }

    private static void rules() {
        due.sentence("Terms", "RULES are A .. F (0 .. 5), each with an EXPRESSION or none.");
        typed('@', false);
        typed('A', true);
        typed('B', true);
        typed('E', true);
        typed('F', true);
        typed('G', false);
        for (int rule = 0; rule < 6; rule++) {
            ChoiceParser x = Use.parser(RULES.charAt(rule) + "=a");
            for (int other = 0; other < 6; other++) {
                int r = other;
                if (other == rule) {
                    due.is("the rule", x.outcomes(other), 6);
                } else {
                    due.throwsA("none", NoSuchElementException.class, () -> x.outcomes(r));
                }
            }
            due.is("a rule's letter in a text", Use.parser(RULES.charAt(rule) + "=a" + RULES.charAt(rule)).check(), 0);
        }
    }

    private static void padOf24() {
        due.sentence("Terms", "A text, put together in a PAD of at most 24 characters");
        String a19 = "a".repeat(19);
        String a20 = "a".repeat(20);
        // The last character of each text tells whether it was read.
        goes("A=" + a19 + "!b", a20, 19);
        goes("A=" + a19 + "!a", a20, -1);
        goes("A=" + a20 + "!.", a20, 20);
        goes("A=" + a20 + "&.", a20, -1);
        // A 25th would make it whole; 24 of these lack something.
        ruled("A=" + a19 + "b?!.", 1 + 24);
        // A 25th would be its fault; 24 of these are a text.
        ruled("A=" + "a".repeat(22) + "=", 0);
        ruled("A=" + "a".repeat(21) + "=", 1 + 23);
    }

    private static void withoutBlanks() {
        due.sentence("Terms", "is a rule's letter, = and a choice, without blanks");
        typed(' ', false);
        typed('\t', false);
        typed('\n', false);
        ruled("A=a", 0);
        ruled("A = a ", 0);
        ruled("a=a", 1);
        ruled("=a", 1);
        ruled("Aa", 2);
        ruled("A==a", 3);
        ruled("A=", 3);
    }

    private static void rowsWithBetween() {
        due.sentence("Terms", "choice: rows with / between.");
        ruled("A=a", 0);
        ruled("A=a/b", 0);
        ruled("A=a/b/c/d/e/f/g/h/i/a/.", 0);
        ruled("A=/", 3);
        ruled("A=/a", 3);
        ruled("A=a/", 5);
        ruled("A=a//b", 5);
        ruled("A=(a/)", 6);
    }

    private static void oneOrMoreParts() {
        due.sentence("Terms", "row: one or more parts.");
        ruled("A=", 3);
        ruled("A=a", 0);
        ruled("A=ab", 0);
        ruled("A=" + "a".repeat(22), 0);
        ruled("A=()", 4);
        ruled("A=(a)", 0);
        ruled("A=(ab)", 0);
    }

    private static void signsOfParts() {
        due.sentence("Terms", "part: & or ! or nothing, a unit, and * or + or ? or nothing.");
        for (String before : new String[] {"", "&", "!"}) {
            for (String behind : new String[] {"", "*", "+", "?"}) {
                ruled("A=" + before + "a" + behind, 0);
                ruled("A=" + before + behind, 3 + before.length());
            }
        }
        for (String two : new String[] {"&&", "&!", "!&", "!!"}) {
            ruled("A=" + two + "a", 4);
        }
        for (char one : "*+?".toCharArray()) {
            for (char two : "*+?".toCharArray()) {
                ruled("A=a" + one + two, 5);
            }
        }
        // The sign before stands at the unit with the sign behind it.
        goes("A=&a+.", "aa", 1);
        goes("A=!a*", "b", -1);
        goes("A=!a?", "b", -1);
        goes("A=!a+", "b", 0);
    }

    private static void units() {
        due.sentence("Terms", "unit: a letter; . ; a rule's letter; [ a letter - a letter that is not less ] ; ( a choice ).");
        for (String unit : new String[] {"a", "i", ".", "A", "F", "[a-i]", "(a)", "(a/b)"}) {
            ruled("A=" + unit, 0);
            ruled("A=&" + unit + "*" + unit, 0);
        }
        for (String none : new String[] {"=", "/", "*", "+", "?", "-", "]", ")"}) {
            ruled("A=" + none, 3);
            ruled("A=&" + none, 4);
        }
        ruled("A=[A-b]", 4);
        ruled("A=[.-b]", 4);
        ruled("A=[ab]", 5);
        ruled("A=[a-B]", 6);
        ruled("A=[a-]", 6);
        ruled("A=[a-b)", 7);
        ruled("A=(a]", 5);
    }

    private static void lettersNotLess() {
        due.sentence("Terms", "[ a letter - a letter that is not less ]");
        for (char low : LETTERS.toCharArray()) {
            for (char high : LETTERS.toCharArray()) {
                String text = "A=[" + low + "-" + high + "]";
                ruled(text, high < low ? 1 + 5 : 0);
                for (char c : high < low ? new char[0] : LETTERS.toCharArray()) {
                    goes(text, String.valueOf(c), c >= low && c <= high ? 1 : -1);
                }
            }
        }
    }

    private static void fourDeep() {
        due.sentence("Terms", "A unit in ( ) is one DEEPER than that to which it belongs, the others 0 deep;"
            + " ( can't stand where the unit is 4 deep.");
        ruled("A=(((a)))", 0);
        ruled("A=((((a))))", 0);
        ruled("A=(((((a)))))", 1 + 6);
        ruled("A=(((([a-b]))))", 0);
        ruled("A=((((.C&c!d*/A))))", 0);
        // Parts, rows and signs are no deeper; what stands behind ) is as deep as before its (.
        ruled("A=((((a))))((((b))))", 0);
        ruled("A=((((a)(b)/(c))))", 0);
        ruled("A=((((a)b(c))((d)))(e))", 0);
        ruled("A=(a((b((c", 1 + 8);
        ruled("A=((((a)((", 1 + 9);
        ruled("A=((((a(b", 1 + 7);
        ruled("A=((((a/b(c", 1 + 9);
        ruled("A=((((&(a", 1 + 7);
        ruled("A=((((a*!(b", 1 + 9);
    }

    /** Behind the prefix, just these of all characters can stand. */
    private static void canStand(String prefix, String those) {
        for (char c : ALL.toCharArray()) {
            ChoiceParser x = new ChoiceParser();
            int answer = Use.rule(x, prefix + c);
            if (those.indexOf(c) < 0) {
                due.is("rule() of " + prefix + c, answer, 1 + prefix.length());
                due.is("rule() of " + prefix + c + "=a", Use.rule(x, prefix + c + "=a"), 1 + prefix.length());
                due.is("rules", x.count(0), 0);
            } else {
                due.is(c + " stands in " + prefix + c, answer == 0 || answer == 2 + prefix.length(), true);
            }
        }
    }

    private static void firstThatCantStand() {
        due.sentence("Terms", "The FAULT of a text that is none: how many characters stand before the first one"
            + " that can't stand where it does");
        canStand("", RULES);
        canStand("A", "=");
        canStand("F", "=");
        canStand("A=", PART);
        canStand("A=&", UNIT);
        canStand("A=!", UNIT);
        for (String unit : new String[] {"a", "i", ".", "A", "F", "[c-d]", "(a)", "&a", "!(a)", "a/b", "ab", "a*b"}) {
            canStand("A=" + unit, BEHIND_UNIT);
            canStand("A=(" + unit, BEHIND_UNIT + ")");
        }
        for (String sign : new String[] {"*", "+", "?"}) {
            canStand("A=a" + sign, BEHIND_SIGN);
            canStand("A=&(a)" + sign, BEHIND_SIGN);
            canStand("A=(a" + sign, BEHIND_SIGN + ")");
        }
        canStand("A=a/", PART);
        canStand("A=(", PART);
        canStand("A=(a/", PART);
        canStand("A=[", LETTERS);
        canStand("A=[c", "-");
        canStand("A=[a-", LETTERS);
        canStand("A=[c-", "cdefghi");
        canStand("A=[i-", "i");
        canStand("A=[c-d", "]");
        canStand("A=(((", PART);
        canStand("A=((((", PART.replace("(", ""));
        canStand("A=((((&", UNIT.replace("(", ""));
        canStand("A=((((a", BEHIND_UNIT.replace("(", "") + ")");
        canStand("A=((((a/", PART.replace("(", ""));
        canStand("A=((((a)", BEHIND_UNIT + ")");
        canStand("A=((((a))))", BEHIND_UNIT);
        ruled("A=" + "a".repeat(20) + "=", 1 + 22);
        ruled("A=" + "a".repeat(21) + ")", 1 + 23);
    }

    private static void somethingMissing() {
        due.sentence("Terms", "or how many there are, if only something behind them is missing.");
        String[] texts = {"", "A", "A=", "A=&", "A=!", "A=a/", "A=ab/", "A=(", "A=(a", "A=(a*", "A=(a/", "A=((a)",
            "A=[", "A=[a", "A=[a-", "A=[a-b", "A=((((", "A=((((a", "A=((((a)))", "A=((((a)))*"};
        for (String text : texts) {
            ruled(text, 1 + text.length());
        }
        String a20 = "a".repeat(20);
        ruled("A=(" + a20, 1 + 23);
        ruled("A=(" + a20 + "a", 1 + 24);
        ruled("A=(" + a20 + ")", 0);
        ruled("A=" + a20 + "a/", 1 + 24);
        // With a fault before the end, what is missing behind the end is none.
        ruled("A=(a=", 1 + 4);
        ruled("A=(()", 1 + 4);
    }

    private static void typeIsTrue() {
        due.sentence("Promise 2", "Puts a character behind the pad's text: true");
        ChoiceParser x = new ChoiceParser();
        String text = "A=b/c";
        for (int i = 0; i < text.length(); i++) {
            due.is("type no. " + i, x.type(text.charAt(i)), true);
            due.is("pad", x.count(1), i + 1);
        }
        due.is("rule()", x.rule(), 0);
        Use.feed(x, "cb");
        due.is("match of the row that was typed last", x.match(0, 0), 1);
        due.is("match of the row that was typed first", x.match(0, 1), 2);
    }

    private static void typeIsFalse() {
        due.sentence("Promise 2", "refused with false when it is none of those that stand in texts, or 24 are there.");
        for (int c = 0; c <= Character.MAX_VALUE; c++) {
            typed((char) c, ALL.indexOf(c) >= 0);
        }
        ChoiceParser x = new ChoiceParser();
        Use.type(x, "A=a");
        due.is("type(z)", x.type('z'), false);
        due.is("type(*)", x.type('*'), true);
        due.is("rule() without what was refused", x.rule(), 0);
        due.is("outcomes of a*", x.outcomes(0), 3);
        ChoiceParser full = new ChoiceParser();
        Use.type(full, "A=" + "a".repeat(20));
        due.is("type no. 23", full.type('a'), true);
        due.is("pad of 23", full.count(1), 23);
        due.is("type no. 24", full.type('b'), true);
        due.is("pad of 24", full.count(1), 24);
        for (char c : (ALL + "z").toCharArray()) {
            due.is("type no. 25, " + c, full.type(c), false);
            due.is("pad of 24 still", full.count(1), 24);
        }
        due.is("rule() of 24", full.rule(), 0);
    }

    private static void inPlaceOfAnother() {
        due.sentence("Promise 3", "The pad's text becomes a rule's expression (in place of another one): 0");
        ChoiceParser x = Use.feed(new ChoiceParser(), "ab");
        due.is("rule() of the first", Use.rule(x, "F=a"), 0);
        due.is("rules", x.count(0), 1);
        due.is("match", x.match(5, 0), 1);
        due.is("rule() of another", Use.rule(x, "F=ab"), 0);
        due.is("rules after another", x.count(0), 1);
        due.is("match of another", x.match(5, 0), 2);
        due.is("rule() of the first again", Use.rule(x, "F=a"), 0);
        due.is("match of the first again", x.match(5, 0), 1);
        for (int rule = 0; rule < 5; rule++) {
            due.is("rule() of more", Use.rule(x, RULES.charAt(rule) + "=b"), 0);
            due.is("rules with more", x.count(0), rule + 2);
            due.is("match of more", x.match(rule, 1), 2);
            due.is("match of the first beside more", x.match(5, 0), 1);
        }
    }

    private static void faultChangesNoRule() {
        due.sentence("Promise 3", "or 1 + the fault, and no rule changes.");
        ChoiceParser x = Use.feed(Use.parser("A=a"), "ab");
        String[] faulty = {"", "A", "A=", "A=ab/", "A=ab)", "A=b=", "B=a/", "B", "B=a)", "=b", "aA=b"};
        int[] answers = {1, 2, 3, 6, 5, 4, 5, 2, 4, 1, 1};
        for (int i = 0; i < faulty.length; i++) {
            due.is("rule() of " + faulty[i], Use.rule(x, faulty[i]), answers[i]);
            due.is("rules after " + faulty[i], x.count(0), 1);
            due.is("match after " + faulty[i], x.match(0, 0), 1);
            due.throwsA("B after " + faulty[i], NoSuchElementException.class, () -> x.match(1, 0));
        }
    }

    private static void padIsEmptyThen() {
        due.sentence("Promise 3", "The pad is empty then.");
        ChoiceParser x = new ChoiceParser();
        for (String text : new String[] {"A=a", "A=", "A=" + "a".repeat(22), "", "A=" + "a".repeat(21) + ")"}) {
            Use.rule(x, text);
            due.is("pad after " + text, x.count(1), 0);
            due.is("rule() of the empty pad", x.rule(), 1);
        }
        for (int n = 0; n < 24; n++) {
            due.is("type no. " + n + " again", x.type(n == 0 ? 'B' : n == 1 ? '=' : 'b'), true);
        }
        due.is("rule() of 24 again", x.rule(), 0);
        due.is("rules", x.count(0), 2);
        due.is("shorter text behind a longer one", Use.rule(x, "B=c"), 0);
        due.is("match of the shorter", Use.feed(x, "cb").match(1, 0), 1);
    }
}
