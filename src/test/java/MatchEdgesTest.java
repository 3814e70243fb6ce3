import java.util.NoSuchElementException;

/** The edges of match(), but for depths: a test for each sentence that names one. */
public final class MatchEdgesTest {
    private static final Due due = new Due();
    private static final String A20 = "a".repeat(20);

    public static void main(String[] args) {
        lettersOneFurther();
        rules();
        rows();
        choices();
        stars();
        pluses();
        maybes();
        ands();
        nots();
        whereItGoes();
        noRuleToMatch();
        noPlaceToMatch();
        notSound();
        tooDeep();
        exceptionsInOrder();
        treeOfThisMatch();
        due.end();
    }

    private static void goes(String text, String input, int want) {
        due.is(text + " on " + input, Use.goes(text, input), want);
    }

    private static void goesAt(String text, String input, int place, int want) {
        ChoiceParser x = Use.feed(Use.parser(text), input);
        due.is(text + " on " + input + " at " + place, x.match(text.charAt(0) - 'A', place), want);
    }

    private static void lettersOneFurther() {
        due.sentence("Terms", "A letter, . (any letter), [ - ] (a letter from one up to the other): one further, if such a"
            + " letter stands there; else it fails.");
        for (String one : new String[] {"a", ".", "[a-b]"}) {
            String text = "A=" + one;
            goes(text, "", -1);
            goes(text, "a", 1);
            goesAt(text, "a", 1, -1);
            goesAt(text, "ca", 1, 2);
            goesAt(text, A20, 18, 19);
            goesAt(text, A20, 19, 20);
            goesAt(text, A20, 20, -1);
        }
        for (char c = 'a'; c <= 'i'; c++) {
            goes("A=.", String.valueOf(c), 1);
            goes("A=e", String.valueOf(c), c == 'e' ? 1 : -1);
            goes("A=[d-f]", String.valueOf(c), c >= 'd' && c <= 'f' ? 1 : -1);
        }
    }

    private static void rules() {
        due.sentence("Terms", "A rule: as its expression.");
        for (String e : new String[] {"a", "a*", "a?b", "&a", "!a", "b/a"}) {
            for (String input : new String[] {"", "a", "b", "ab", "aab"}) {
                ChoiceParser x = Use.feed(Use.parser("A=" + e, "B=A", "F=(B)"), input);
                for (int place = 0; place <= input.length(); place++) {
                    int to = x.match(0, place);
                    due.is("A=" + e + " by B on " + input, x.match(1, place), to);
                    due.is("A=" + e + " by F on " + input, x.match(5, place), to);
                }
            }
        }
    }

    private static void rows() {
        due.sentence("Terms", "A row: its parts, one behind the other; it fails if one does.");
        goes("A=abc", "abc", 3);
        goes("A=abc", "bbc", -1);
        goes("A=abc", "aac", -1);
        goes("A=abc", "abb", -1);
        goes("A=abc", "ab", -1);
        goes("A=abc", "abca", 3);
        goes("A=" + A20, A20, 20);
        goes("A=" + A20 + "a", A20, -1);
        goes("A=" + A20, "a".repeat(19), -1);
    }

    private static void choices() {
        due.sentence("Terms", "A choice: its rows in turn, each at the same place; the first that does not fail; it fails"
            + " if all do.");
        goes("A=a/ab/abc", "abc", 1);
        goes("A=ab/abc/a", "abc", 2);
        goes("A=abc/ab/a", "abc", 3);
        goes("A=abd/abb/ab", "abc", 2);
        goes("A=abd/abb/aa", "abc", -1);
        goes("A=b?/abc", "abc", 0);
        // The rest of a row is no reason to try another row.
        goes("A=(a/ab)c", "abc", -1);
        goes("A=(ab/a)c", "abc", 3);
        goes("A=a/b/c/d/e/f/g/h/i", "h", 1);
        goes("A=a/b/c/d/e/f/g/h/i", "i", 1);
    }

    private static void stars() {
        due.sentence("Terms", "e*: e again and again till it fails; then where the last one went.");
        goes("A=a*", "", 0);
        goes("A=a*", "b", 0);
        goes("A=a*", "ab", 1);
        goes("A=a*", "aab", 2);
        goes("A=a*", "a".repeat(19), 19);
        goes("A=a*", A20, 20);
        goesAt("A=a*", A20, 19, 20);
        goesAt("A=a*", A20, 20, 20);
        goes("A=(ab)*", "aba", 2);
        goes("A=(ab)*", "abab", 4);
        goes("A=a*a", A20, -1);
        goes("A=(!(a*))*", "aa", 0);
    }

    private static void pluses() {
        due.sentence("Terms", "e+: the same, but it fails if the first e does.");
        goes("A=a+", "", -1);
        goes("A=a+", "b", -1);
        goes("A=a+", "ab", 1);
        goes("A=a+", "aab", 2);
        goes("A=a+", "a".repeat(19), 19);
        goes("A=a+", A20, 20);
        goesAt("A=a+", A20, 19, 20);
        goesAt("A=a+", A20, 20, -1);
        goes("A=(ab)+", "aba", 2);
        goes("A=(ab)+", "aa", -1);
        goes("A=a+a", A20, -1);
    }

    private static void maybes() {
        due.sentence("Terms", "e?: where e goes, or the same place, if it fails.");
        goes("A=a?", "", 0);
        goes("A=a?", "b", 0);
        goes("A=a?", "a", 1);
        goes("A=a?", "aa", 1);
        goes("A=(ab)?", "aa", 0);
        goes("A=(ab)?", "ab", 2);
        goesAt("A=a?", A20, 19, 20);
        goesAt("A=a?", A20, 20, 20);
        goes("A=a?a", "a", -1);
    }

    private static void ands() {
        due.sentence("Terms", "&e: the same place, if e does not fail; else it fails.");
        goes("A=&a", "", -1);
        goes("A=&a", "a", 0);
        goes("A=&a", "b", -1);
        goes("A=&a*", "b", 0);
        goes("A=&(ab)a", "ab", 1);
        goes("A=&(ab)a", "aa", -1);
        goesAt("A=&.", A20, 19, 19);
        goesAt("A=&.", A20, 20, -1);
    }

    private static void nots() {
        due.sentence("Terms", "!e: the same place, if e fails; else it fails.");
        goes("A=!a", "", 0);
        goes("A=!a", "a", -1);
        goes("A=!a", "b", 0);
        goes("A=!a*", "b", -1);
        goes("A=!(ab)a", "ab", -1);
        goes("A=!(ab)a", "aa", 1);
        goesAt("A=!.", A20, 19, -1);
        goesAt("A=!.", A20, 20, 20);
    }

    private static void whereItGoes() {
        due.sentence("Promise 9", "Matches a rule at a place: where it goes to, or NONE if it fails.");
        due.is("NONE", ChoiceParser.NONE, -1);
        ChoiceParser x = Use.feed(Use.parser("A=a", "F=.*"), A20.substring(1) + "b");
        for (int place = 0; place <= 20; place++) {
            due.is("match(0, " + place + ")", x.match(0, place), place < 19 ? place + 1 : ChoiceParser.NONE);
            due.is("match(5, " + place + ")", x.match(5, place), 20);
        }
        due.is("failing again", x.match(0, 19), ChoiceParser.NONE);
        due.is("going again", x.match(0, 18), 19);
    }

    private static void noRuleToMatch() {
        due.sentence("Promise 9", "NoSuchElementException: there is no such rule, or it has no expression.");
        ChoiceParser x = Use.feed(Use.parser("A=a", "C=a", "F=a"), "a");
        for (int none : new int[] {Integer.MIN_VALUE, -2, -1, 6, 7, 1, 3, 4, Integer.MAX_VALUE}) {
            due.throwsA("match(" + none + ", 0)", NoSuchElementException.class, () -> x.match(none, 0));
        }
        due.is("match(0, 0)", x.match(0, 0), 1);
        due.is("match(2, 0)", x.match(2, 0), 1);
        due.is("match(5, 0)", x.match(5, 0), 1);
        x.drop(5);
        due.throwsA("match(5, 0) after drop", NoSuchElementException.class, () -> x.match(5, 0));
        due.is("match(0, 0) after drop", x.match(0, 0), 1);
    }

    private static void noPlaceToMatch() {
        due.sentence("Promise 9", "IllegalArgumentException: there is no such place.");
        ChoiceParser x = Use.parser("A=a*");
        for (int letters = 0; letters <= 20; letters++) {
            for (int none : new int[] {Integer.MIN_VALUE, -1, letters + 1, letters + 2, 21, Integer.MAX_VALUE}) {
                due.throwsA("match(0, " + none + ")", IllegalArgumentException.class, () -> x.match(0, none));
            }
            due.is("match(0, 0) of " + letters, x.match(0, 0), letters);
            due.is("match(0, " + letters + ")", x.match(0, letters), letters);
            if (letters < 20) {
                x.feed('a');
            }
        }
    }

    private static void notSound() {
        due.sentence("Promise 9", "IllegalStateException: the grammar is not sound;");
        ChoiceParser x = Use.feed(Use.parser("A=a"), "a");
        // It is the grammar that is asked, not only what the rule needs.
        for (String unsound : new String[] {"B=B", "B=C", "F=(a?)*", "F=a/F", "F=b(a?)+"}) {
            due.is("match before " + unsound, x.match(0, 0), 1);
            Use.rule(x, unsound);
            due.throwsA("match with " + unsound, IllegalStateException.class, () -> x.match(0, 0));
            due.is("begun and remembered", x.count(4) + x.count(5), x.count(4));
            x.drop(unsound.charAt(0) - 'A');
        }
        due.is("match after them", x.match(0, 0), 1);
        Use.rule(x, "B=aB");
        due.is("match beside a sound one", x.match(0, 0), 1);
    }

    private static void tooDeep() {
        due.sentence("Promise 9", "or a rule would have to be worked out at a depth above 40 (what was worked out whole"
            + " before stays in the memory).");
        // With each letter A is three deeper, from 1 on; below it B at three more and C at two more.
        ChoiceParser x = Use.feed(Use.parser("A=BaA", "B=C", "C=!b"), A20);
        due.is("match with C at 39", x.match(0, 9), -1);
        due.is("begun", x.count(4), 12 + 12 + 12);
        ChoiceParser y = Use.feed(Use.parser("A=BaA", "B=C", "C=!b"), A20);
        due.throwsA("match with B at 40 and C at 42", IllegalStateException.class, () -> y.match(0, 8));
        due.is("begun", y.count(4), 13 + 13 + 12);
        due.is("remembered", y.count(5), 0);
        // Of all that was begun, the A's and the last B were not worked out whole.
        String whole = "-2 -2 -2 -2 -2 -2 -2 -2 8 9 10 11 12 13 14 15 16 17 18 19 -2";
        due.is("memory of A", Use.memory(y, 0), "-2" + " -2".repeat(20));
        due.is("memory of B", Use.memory(y, 1), whole);
        due.is("memory of C", Use.memory(y, 2), whole);
        due.is("full", y.full(), 24f / 63f);
        due.throwsA("the same again", IllegalStateException.class, () -> y.match(0, 8));
        due.is("begun again", y.count(4), 38 + 13 + 1);
        due.is("remembered of it", y.count(5), 12);
        due.is("match at the last place", y.match(0, 20), -1);
        due.is("match that needs to go no deeper than 37 then", y.match(0, 8), -1);
    }

    private static void exceptionsInOrder() {
        due.sentence("Terms", "EXCEPTIONS: a call ends by the first that holds, in the order named with it;");
        ChoiceParser x = Use.parser("A=A");
        due.throwsA("no rule, no place, not sound", NoSuchElementException.class, () -> x.match(6, 1));
        due.throwsA("no expression, no place, not sound", NoSuchElementException.class, () -> x.match(1, 1));
        due.throwsA("no rule, not sound", NoSuchElementException.class, () -> x.match(-1, 0));
        due.throwsA("no place, not sound", IllegalArgumentException.class, () -> x.match(0, 1));
        due.throwsA("not sound", IllegalStateException.class, () -> x.match(0, 0));
        ChoiceParser y = Use.feed(Use.parser("A=aA"), A20);
        due.throwsA("no place, too deep at others", IllegalArgumentException.class, () -> y.match(0, 21));
        due.throwsA("too deep", IllegalStateException.class, () -> y.match(0, 0));
        ChoiceParser z = Use.feed(Use.parser("A=B"), A20);
        due.throwsA("outcomes: no rule, one missing", NoSuchElementException.class, () -> z.outcomes(6));
        due.throwsA("outcomes: no expression, one missing", NoSuchElementException.class, () -> z.outcomes(1));
        due.throwsA("outcomes: one missing", IllegalStateException.class, () -> z.outcomes(0));
        due.throwsA("feed: no letter, 20 there", IllegalArgumentException.class, () -> z.feed('j'));
        due.throwsA("feed: 20 there", IllegalStateException.class, () -> z.feed('a'));
    }

    private static void treeOfThisMatch() {
        due.sentence("Promise 9", "The tree is that of this match then; empty if it failed or an exception was thrown.");
        ChoiceParser x = Use.feed(Use.parser("A=aB", "B=b?"), "aba");
        due.is("match of A", x.match(0, 0), 2);
        due.is("tree of A", Use.tree(x), "0A0-2 1B1-2");
        due.is("match of B", x.match(1, 2), 2);
        due.is("tree of B", Use.tree(x), "0B2-2");
        due.is("match of A again", x.match(0, 0), 2);
        due.is("tree of A again", Use.tree(x), "0A0-2 1B1-2");
        due.is("match that fails", x.match(0, 1), -1);
        due.is("tree of what failed", x.count(3), 0);
        due.throwsA("node of what failed", IndexOutOfBoundsException.class, () -> x.node(0, 0));
        thrown(x, NoSuchElementException.class, 6, 0);
        thrown(x, NoSuchElementException.class, 2, 0);
        thrown(x, IllegalArgumentException.class, 0, 4);
        x.match(0, 0);
        Use.rule(x, "C=C");
        due.is("tree before it is not sound", x.count(3), 2);
        due.throwsA("not sound", IllegalStateException.class, () -> x.match(0, 0));
        due.is("tree after it is not sound", x.count(3), 0);
        ChoiceParser y = Use.feed(Use.parser("A=aA/a"), A20);
        due.is("match", y.match(0, 12), 20);
        due.is("tree", y.count(3), 8);
        due.throwsA("too deep", IllegalStateException.class, () -> y.match(0, 0));
        due.is("tree after it is too deep", y.count(3), 0);
    }

    private static void thrown(ChoiceParser x, Class<? extends RuntimeException> want, int rule, int place) {
        due.is("match before an exception", x.match(0, 0), 2);
        due.is("tree before an exception", x.count(3), 2);
        due.throwsA("match(" + rule + ", " + place + ")", want, () -> x.match(rule, place));
        due.is("tree after an exception", x.count(3), 0);
    }
}
