import java.util.NoSuchElementException;

/** The edges of drop(), outcomes() and check(): a test for each sentence that names one. */
public final class GrammarEdgesTest {
    private static final Due due = new Due();
    private static final int STILL = 1;
    private static final int ON = 2;
    private static final int FAILING = 4;
    /** Expressions whose outcomes are 0 .. 7; F stands for the rule F=F, which has none. */
    private static final String[] OF = {"F", "&(a*)", "(a*)*", "a*", "!(a*)", "&a", "a", "&a/b"};
    private static final int[] NO_RULES = {Integer.MIN_VALUE, -2, -1, 6, 7, Integer.MAX_VALUE};

    public static void main(String[] args) {
        whetherItHad();
        noRuleToDrop();
        outcomesOfLetters();
        outcomesOfRows();
        outcomesOfChoices();
        outcomesOfSigns();
        leastThatComesSo();
        outcomesAsNumber();
        noOutcomesOfNone();
        noOutcomesWithMissing();
        goodRules();
        goodRows();
        goodChoices();
        goodRepetitions();
        goodOthers();
        soundGrammar();
        checkWithoutRules();
        checkOfMissing();
        checkOfNotGood();
        due.end();
    }

    private static String letter(int rule) {
        return String.valueOf((char) ('A' + rule));
    }

    private static void whetherItHad() {
        due.sentence("Promise 4", "A rule has no expression any more: whether it had.");
        for (int rule = 0; rule < 6; rule++) {
            int r = rule;
            ChoiceParser x = new ChoiceParser();
            due.is("drop(" + rule + ") of none", x.drop(rule), false);
            Use.rule(x, letter(rule) + "=a");
            Use.rule(x, letter(5 - rule) + "=b");
            due.is("drop(" + rule + ")", x.drop(rule), true);
            due.is("rules", x.count(0), 1);
            due.throwsA("outcomes", NoSuchElementException.class, () -> x.outcomes(r));
            due.throwsA("match", NoSuchElementException.class, () -> x.match(r, 0));
            due.is("the other one", x.outcomes(5 - rule), 6);
            due.is("drop(" + rule + ") again", x.drop(rule), false);
            due.is("rules", x.count(0), 1);
            due.is("rule() after drop", Use.rule(x, letter(rule) + "=b"), 0);
            due.is("drop(" + rule + ") of the new one", x.drop(rule), true);
        }
    }

    private static void noRuleToDrop() {
        due.sentence("Promise 4", "NoSuchElementException: there is no such rule.");
        ChoiceParser x = Use.parser("A=a", "B=a", "C=a", "D=a", "E=a", "F=a");
        for (int none : NO_RULES) {
            due.throwsA("drop(" + none + ")", NoSuchElementException.class, () -> x.drop(none) ? 1 : 0);
        }
        due.is("rules", x.count(0), 6);
        due.is("drop(0)", x.drop(0), true);
        due.is("drop(5)", x.drop(5), true);
        due.is("rules", x.count(0), 4);
    }

    /** The outcomes of A, where B, C and D have these outcomes themselves. */
    private static int outcomes(String text, int... ofOthers) {
        ChoiceParser x = Use.parser(text, "F=F");
        for (int i = 0; i < ofOthers.length; i++) {
            Use.rule(x, letter(1 + i) + "=" + OF[ofOthers[i]]);
        }
        for (int i = 0; i < ofOthers.length; i++) {
            due.is("outcomes of " + OF[ofOthers[i]], x.outcomes(1 + i), ofOthers[i]);
        }
        return x.outcomes(0);
    }

    private static int set(boolean still, boolean on, boolean failing) {
        return (still ? STILL : 0) + (on ? ON : 0) + (failing ? FAILING : 0);
    }

    private static boolean has(int outcomes, int one) {
        return (outcomes & one) != 0;
    }

    private static void outcomesOfLetters() {
        due.sentence("Terms", "letters, . , [ - ]: on, failing. A rule: what its expression is.");
        for (String one : new String[] {"a", "i", ".", "[a-a]", "[a-i]", "[i-i]"}) {
            due.is("outcomes of " + one, outcomes("A=" + one), ON + FAILING);
        }
        for (int p = 0; p < 8; p++) {
            due.is("a rule of " + p, outcomes("A=B", p), p);
            due.is("a rule of " + p + " in ( )", outcomes("A=((((B))))", p), p);
        }
    }

    private static int rowOf(int p, int r) {
        boolean still = has(p, STILL) && has(r, STILL);
        boolean on = has(p, ON) && (has(r, ON) || has(r, STILL)) || has(p, STILL) && has(r, ON);
        boolean failing = has(p, FAILING) || (has(p, STILL) || has(p, ON)) && has(r, FAILING);
        return set(still, on, failing);
    }

    private static void outcomesOfRows() {
        due.sentence("Terms", "A row of one part: that part; of more, the first part p and the rest r: still, if both are;"
            + " on, if p is on and r is on or still, or p is still and r on; failing, if p is, or p is still or on"
            + " and r failing.");
        for (int p = 0; p < 8; p++) {
            for (int q = 0; q < 8; q++) {
                due.is("row of " + p + " " + q, outcomes("A=BC", p, q), rowOf(p, q));
                for (int r = 0; r < 8; r++) {
                    due.is("row of " + p + " " + q + " " + r, outcomes("A=BCD", p, q, r), rowOf(p, rowOf(q, r)));
                }
            }
        }
    }

    private static int choiceOf(int p, int r) {
        boolean still = has(p, STILL) || has(p, FAILING) && has(r, STILL);
        boolean on = has(p, ON) || has(p, FAILING) && has(r, ON);
        return set(still, on, has(p, FAILING) && has(r, FAILING));
    }

    private static void outcomesOfChoices() {
        due.sentence("Terms", "A choice of one row: that row; of more, the first row p and the rest r: still, if p is,"
            + " or p is failing and r still; on, if p is, or p is failing and r on; failing, if both are.");
        for (int p = 0; p < 8; p++) {
            for (int q = 0; q < 8; q++) {
                due.is("choice of " + p + " " + q, outcomes("A=B/C", p, q), choiceOf(p, q));
                for (int r = 0; r < 8; r++) {
                    due.is("choice of " + p + " " + q + " " + r, outcomes("A=B/C/D", p, q, r),
                        choiceOf(p, choiceOf(q, r)));
                }
            }
        }
    }

    private static void outcomesOfSigns() {
        due.sentence("Terms", "e*: on, if e is; still, if e is failing. e+: on, if e is on; still, if e is both still and"
            + " failing; failing, if e is. e?: still, if e is still or failing; on, if e is. &e: still, if e is still"
            + " or on; failing, if e is. !e: still, if e is failing; failing, if e is still or on.");
        for (int e = 0; e < 8; e++) {
            boolean still = has(e, STILL);
            boolean on = has(e, ON);
            boolean failing = has(e, FAILING);
            due.is("e* of " + e, outcomes("A=B*", e), set(failing, on, false));
            due.is("e+ of " + e, outcomes("A=B+", e), set(still && failing, on, failing));
            due.is("e? of " + e, outcomes("A=B?", e), set(still || failing, on, false));
            due.is("&e of " + e, outcomes("A=&B", e), set(still || on, false, failing));
            due.is("!e of " + e, outcomes("A=!B", e), set(failing, false, still || on));
        }
    }

    private static void leastThatComesSo() {
        due.sentence("Terms", "found as the least that comes so");
        due.is("A=A", outcomes("A=A"), 0);
        due.is("A=A/A", outcomes("A=A/A"), 0);
        due.is("A=Aa", outcomes("A=Aa"), 0);
        due.is("A=A/a", outcomes("A=A/a"), 0);
        due.is("A=a/A", outcomes("A=a/A"), 2);
        due.is("A=aA", outcomes("A=aA"), 4);
        due.is("A=!A", outcomes("A=!A"), 0);
        due.is("A=A?", outcomes("A=A?"), 0);
        due.is("A=aA/b", outcomes("A=aA/b"), 6);
        // What comes about by another rule comes late: each way round must be gone to its end.
        String[] down = {"A=B", "B=C", "C=D", "D=E", "E=F", "F=aA?"};
        String[] up = {"F=E", "E=D", "D=C", "C=B", "B=A", "A=aF?"};
        for (String[] texts : new String[][] {down, up}) {
            ChoiceParser x = Use.parser(texts);
            for (int rule = 0; rule < 6; rule++) {
                due.is("round " + texts[0] + ", " + rule, x.outcomes(rule), 6);
            }
        }
        // Still comes first, by it on, and then, by both, failing; behind &A instead, nothing does.
        due.is("A=aA/!b/&Ab", outcomes("A=aA/!b/&Ab"), 7);
        due.is("A=aA/&Ab/!b", outcomes("A=aA/&Ab/!b"), 0);
        ChoiceParser x = Use.parser("A=B?", "B=!C", "C=&D", "D=E?F", "E=!F", "F=aA");
        int[] want = {1, 5, 5, 6, 5, 6};
        for (int rule = 0; rule < 6; rule++) {
            due.is("one by the other, " + rule, x.outcomes(rule), want[rule]);
        }
        thriceRound();
        nothingOfBefore();
    }

    /** Each outcome comes only by the one before it, so all rules must be gone through again for it. */
    private static void thriceRound() {
        for (String e : new String[] {"a/!A", "&a/!Aa", "&a(Aa)?", "!a(&A/a)+", "!a/AaAA/!(A*)"}) {
            due.is("outcomes of " + e, outcomes("A=" + e), 7);
            ChoiceParser down = Use.parser("A=B", "B=C", "C=D", "D=E", "E=F", "F=" + e);
            ChoiceParser up = Use.parser("F=E", "E=D", "D=C", "C=B", "B=A", "A=" + e.replace('A', 'F'));
            for (int rule = 0; rule < 6; rule++) {
                due.is("down to " + e + ", " + rule, down.outcomes(rule), 7);
                due.is("up to " + e + ", " + rule, up.outcomes(rule), 7);
            }
        }
    }

    /** What was found before a rule changed is no reason for anything. */
    private static void nothingOfBefore() {
        ChoiceParser x = Use.parser("A=B", "B=C", "C=a?");
        due.is("outcomes before", x.outcomes(0), 3);
        Use.rule(x, "C=A");
        for (int rule = 0; rule < 3; rule++) {
            due.is("outcomes of a ring behind it", x.outcomes(rule), 0);
        }
        due.is("check() of a ring behind it", x.check(), 3);
        Use.rule(x, "C=aA");
        due.is("outcomes of what fails behind it", x.outcomes(0), 4);
        due.is("check() of what fails behind it", x.check(), 0);
    }

    private static void outcomesAsNumber() {
        due.sentence("Promise 7", "What the outcomes of a rule are: 1 if still + 2 if on + 4 if failing.");
        for (int rule = 0; rule < 6; rule++) {
            for (int outcomes = 1; outcomes < 8; outcomes++) {
                ChoiceParser x = Use.parser(letter(rule) + "=" + OF[outcomes]);
                due.is("outcomes(" + rule + ") of " + OF[outcomes], x.outcomes(rule), outcomes);
            }
            ChoiceParser none = Use.parser(letter(rule) + "=" + letter(rule));
            due.is("outcomes(" + rule + ") of none", none.outcomes(rule), 0);
        }
    }

    private static void noOutcomesOfNone() {
        due.sentence("Promise 7", "NoSuchElementException: there is no such rule, or it has no expression.");
        ChoiceParser x = Use.parser("A=a", "C=a", "D=a", "E=a", "F=a");
        for (int none : NO_RULES) {
            due.throwsA("outcomes(" + none + ")", NoSuchElementException.class, () -> x.outcomes(none));
        }
        due.throwsA("outcomes(1)", NoSuchElementException.class, () -> x.outcomes(1));
        due.is("outcomes(0)", x.outcomes(0), 6);
        due.is("outcomes(5)", x.outcomes(5), 6);
        // It is named before what holds for a rule that is missing.
        Use.rule(x, "A=B");
        due.throwsA("outcomes(6), one missing", NoSuchElementException.class, () -> x.outcomes(6));
        due.throwsA("outcomes(1), itself missing", NoSuchElementException.class, () -> x.outcomes(1));
    }

    private static void noOutcomesWithMissing() {
        due.sentence("Promise 7", "IllegalStateException: a rule that stands in one has no expression.");
        for (int missing = 0; missing < 6; missing++) {
            int rule = (missing + 1) % 6;
            for (String before : new String[] {"", "a", "a/", "(b*", "!", "&("}) {
                ChoiceParser x = Use.parser(letter(rule) + "=" + before + letter(missing)
                    + (before.indexOf('(') >= 0 ? ")" : ""));
                due.throwsA("missing " + missing + " behind " + before, IllegalStateException.class,
                    () -> x.outcomes(rule));
                Use.rule(x, letter(missing) + "=a");
                due.is("no more missing", x.outcomes(rule) >= 1, true);
                x.drop(missing);
                due.throwsA("missing again", IllegalStateException.class, () -> x.outcomes(rule));
            }
        }
        due.is("none stands in it", Use.parser("A=a").outcomes(0), 6);
        due.is("itself stands in it", Use.parser("A=aA/b").outcomes(0), 6);
    }

    private static void checked(int want, String... texts) {
        due.is("check() of " + String.join(" ", texts), Use.parser(texts).check(), want);
    }

    private static void goodRules() {
        due.sentence("Terms", "GOOD are expressions as these make them, in the least way: letters, . , [ - ]."
            + " A rule whose expression is good.");
        checked(0, "A=a");
        checked(0, "A=.");
        checked(0, "A=[a-a]");
        checked(0, "A=B", "B=a");
        checked(3, "A=A");
        checked(3, "A=(A)");
        checked(3, "A=B", "B=A");
        checked(3, "A=B", "B=C", "C=D", "D=E", "E=F", "F=A");
        checked(0, "A=B", "B=C", "C=D", "D=E", "E=F", "F=a");
        checked(0, "F=E", "E=D", "D=C", "C=B", "B=A", "A=a");
        checked(3, "A=B", "B=(a?)*");
    }

    private static void goodRows() {
        due.sentence("Terms", "A row of one part that is; of more, if the first part is, and, if that is still,"
            + " also the rest.");
        checked(0, "A=aA");
        checked(3, "A=Aa");
        checked(0, "A=a+A");
        checked(3, "A=a*A");
        checked(3, "A=a?A");
        checked(3, "A=&aA");
        checked(3, "A=!aA");
        // Its first part may only fail, so it is not still, and the rest is behind it.
        checked(0, "A=!(a*)A");
        checked(3, "A=&(a*)A");
        checked(0, "A=a?b?cA");
        checked(3, "A=a?b?c?A");
        checked(0, "A=BA", "B=a");
        checked(3, "A=BA", "B=a?");
        checked(0, "A=a?BA", "B=b?c");
        checked(3, "A=a?BA", "B=b?");
    }

    private static void goodChoices() {
        due.sentence("Terms", "A choice, if all rows are.");
        checked(0, "A=a/b/c");
        checked(3, "A=A/b/c");
        checked(3, "A=a/A/c");
        checked(3, "A=a/b/A");
        // Even a row that nothing can come to.
        checked(3, "A=a*/A");
        checked(0, "A=aA/bA/cA");
        checked(3, "A=aA/bA/c?A");
    }

    private static void goodRepetitions() {
        due.sentence("Terms", "e* and e+, if e is good and not still.");
        String[] notStill = {"a", "!(a*)", "ab*", "a/b", "&ab"};
        String[] still = {"a*", "a?", "&a", "!a", "&(a*)", "a?b?", "a/b?", "&a/b"};
        for (char sign : "*+".toCharArray()) {
            for (String e : notStill) {
                checked(0, "A=(" + e + ")" + sign);
                checked(0, "A=B" + sign, "B=" + e);
            }
            for (String e : still) {
                checked(3, "A=(" + e + ")" + sign);
                checked(3, "A=B" + sign, "B=" + e);
            }
            checked(3, "A=A" + sign);
            checked(3, "A=b/A" + sign);
            checked(0, "A=bA" + sign);
        }
    }

    private static void goodOthers() {
        due.sentence("Terms", "e?, &e, !e, if e is.");
        for (String part : new String[] {"B?", "&B", "!B"}) {
            checked(0, "A=" + part, "B=a");
            checked(0, "A=" + part, "B=a?");
            checked(0, "A=" + part, "B=a*");
            checked(3, "A=" + part, "B=A");
            checked(3, "A=" + part, "B=(a?)*");
            checked(0, "A=" + part, "B=bA");
        }
    }

    private static void soundGrammar() {
        due.sentence("Terms", "A GRAMMAR is SOUND if there are rules, each rule that stands in one has an expression, and"
            + " for each rule with an expression it and all expressions in it (parts, rows, and what is left of a row"
            + " behind each of its parts) are good.");
        checked(1);
        checked(0, "A=a");
        checked(12, "A=B");
        checked(0, "A=B", "B=a");
        // Behind a letter, where a row is good without it.
        checked(3, "A=aB", "B=B");
        checked(3, "A=a(b?)*");
        checked(3, "A=a(b?)*c");
        checked(3, "A=abcd(b?)+");
        checked(3, "A=ab?(a?)*");
        checked(3, "A=a/b(c(d*)*)");
        checked(3, "A=a&(a!(b((a?)*)))");
        checked(13, "A=a", "B=aB*", "C=c", "B=a(A?)*");
        // A rule that no other one needs.
        checked(53, "A=a", "F=F");
        checked(0, "A=a", "F=aF");
    }

    private static void checkWithoutRules() {
        due.sentence("Promise 8", "0 if the grammar is sound. Else: 1 if there are no rules;");
        ChoiceParser x = new ChoiceParser();
        due.is("check() of a new one", x.check(), 1);
        Use.feed(x, "ab");
        Use.rule(x, "A=a/");
        due.is("check() after a fault", x.check(), 1);
        Use.rule(x, "F=a");
        due.is("check() of one rule", x.check(), 0);
        Use.rule(x, "A=F");
        due.is("check() of two rules", x.check(), 0);
        x.drop(0);
        due.is("check() of one rule again", x.check(), 0);
        x.drop(5);
        due.is("check() of none again", x.check(), 1);
        Use.rule(x, "B=A");
        due.is("check() with one missing", x.check(), 2);
        x.drop(1);
        due.is("check() of none, none missing", x.check(), 1);
    }

    private static void checkOfMissing() {
        due.sentence("Promise 8", "2 + 10 * the lowest rule that has no expression and stands in one;");
        for (int low = 0; low < 6; low++) {
            int rule = (low + 1) % 6;
            checked(2 + 10 * low, letter(rule) + "=" + letter(low));
            checked(2 + 10 * low, letter(rule) + "=a/b(c!" + letter(low) + ")");
            for (int high = low + 1; high < 6; high++) {
                rule = low > 0 ? 0 : high == 1 ? 2 : 1;
                checked(2 + 10 * low, letter(rule) + "=" + letter(low) + letter(high));
                checked(2 + 10 * low, letter(rule) + "=" + letter(high) + letter(low));
            }
        }
        // A lower one that stands nowhere is not missing; nor is one that has an expression.
        checked(42, "D=E");
        checked(52, "A=BF", "B=a");
        // This comes before what is not good, even of a lower rule.
        checked(52, "A=A", "B=F");
        checked(2, "B=B", "C=A");
        ChoiceParser x = Use.parser("A=B", "B=C");
        due.is("check()", x.check(), 22);
        x.drop(1);
        due.is("check() after drop", x.check(), 12);
        Use.rule(x, "B=b");
        due.is("check() after rule()", x.check(), 0);
    }

    private static void checkOfNotGood() {
        due.sentence("Promise 8", "3 + 10 * the lowest rule with an expression of which (or in which) something is not"
            + " good.");
        for (int low = 0; low < 6; low++) {
            checked(3 + 10 * low, letter(low) + "=" + letter(low));
            checked(3 + 10 * low, letter(low) + "=a(b?)*");
            for (int high = low + 1; high < 6; high++) {
                String bad = letter(high) + "=" + letter(high);
                checked(3 + 10 * high, letter(low) + "=a", bad);
                checked(3 + 10 * low, bad, letter(low) + "=(a?)*");
                checked(3 + 10 * low, bad, letter(low) + "=a" + letter(high));
            }
        }
        ChoiceParser x = Use.parser("B=B", "E=E");
        due.is("check()", x.check(), 13);
        Use.rule(x, "B=b");
        due.is("check() after rule()", x.check(), 43);
        x.drop(4);
        due.is("check() after drop", x.check(), 0);
        Use.rule(x, "E=BE");
        due.is("check() of a good one", x.check(), 0);
        Use.rule(x, "B=b?");
        due.is("check() after another one changed", x.check(), 43);
    }
}
