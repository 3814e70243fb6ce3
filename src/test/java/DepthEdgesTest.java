/** The edges of depths: a test for each sentence that names one. */
public final class DepthEdgesTest {
    private static final Due due = new Due();
    private static final String A20 = "a".repeat(20);

    public static void main(String[] args) {
        depthOne();
        rowsAndParts();
        signs();
        severalAtOnce();
        expressionOfRule();
        ruleForItsLetter();
        memoryFirst();
        above40();
        due.end();
    }

    /**
     * Rule B has this text, and rule C, for its letter in it, is worked out this much deeper than B.
     * Below C, rules go down to any depth in steps of two (C=D) and of three (E=aE, for each letter
     * of the input); so it is seen just where 40 is passed.
     */
    private static void step(String text, int step) {
        for (int deepest = 37; deepest <= 43; deepest++) {
            int below = deepest - 1 - step;
            int twos = below * 2 % 3;
            int threes = (below - 2 * twos) / 3;
            ChoiceParser x = Use.feed(Use.parser(down(text, twos)), "a".repeat(threes));
            String told = text + " down to " + deepest;
            due.is(told + " is too deep", tooDeep(x, 1, 0), deepest > 40);
            due.is(told + ", begun", x.count(4), 2 + twos + threes - (deepest > 40 ? 1 : 0));
        }
    }

    private static String[] down(String text, int twos) {
        switch (twos) {
            case 0:
                return new String[] {text, "C=aC"};
            case 1:
                return new String[] {text, "C=D", "D=aD"};
            default:
                return new String[] {text, "C=D", "D=E", "E=aE"};
        }
    }

    private static boolean tooDeep(ChoiceParser x, int rule, int place) {
        try {
            x.match(rule, place);
            return false;
        } catch (IllegalStateException e) {
            return true;
        }
    }

    private static void depthOne() {
        due.sentence("Terms", "DEPTHS: the rule of match() is worked out at depth 1.");
        for (int letters = 0; letters <= 20; letters++) {
            // The last A is worked out at depth 1 + 3 * letters.
            ChoiceParser x = Use.feed(Use.parser("A=aA"), A20);
            due.is("A on " + letters + " letters", tooDeep(x, 0, 20 - letters), letters > 13);
            due.is("begun on " + letters + " letters", x.count(4), Math.min(letters, 13) + 1);
            ChoiceParser y = Use.feed(Use.parser("A=aA", "B=A"), A20);
            due.is("B on " + letters + " letters", tooDeep(y, 1, 20 - letters), letters > 12);
        }
        // Each match begins at 1 anew, wherever the one before ended.
        ChoiceParser z = Use.feed(Use.parser("A=aA"), A20);
        due.is("too deep", tooDeep(z, 0, 6), true);
        due.is("not too deep behind it", tooDeep(z, 0, 7), false);
        due.is("no deeper than 4 behind it", tooDeep(z, 0, 6), false);
    }

    private static void rowsAndParts() {
        due.sentence("Terms", "Rows of a choice that has several, parts of a row that has several, and what a sign"
            + " (& ! * + ?) stands at, are one deeper than that in which they are;");
        step("B=C/b", 3);
        step("B=b/C", 3);
        step("B=b/b/C", 3);
        step("B=b/C/b", 3);
        step("B=Cb", 3);
        step("B=b?C", 3);
        step("B=b?b?C", 3);
        step("B=b?Cb", 3);
        // One row, or one part, is as deep as that which it is alone in.
        step("B=(C)", 2);
        step("B=((((C))))", 2);
        step("B=((((Cb))))", 3);
        step("B=(C)/b", 3);
        step("B=(C)b", 3);
        step("B=((C)/b)", 3);
    }

    private static void signs() {
        due.sentence("Terms", "what a sign (& ! * + ?) stands at, are one deeper than that in which they are;");
        step("B=&C", 3);
        step("B=!C", 3);
        step("B=C*", 3);
        step("B=C+", 3);
        step("B=C?", 3);
        for (String before : new String[] {"&", "!"}) {
            step("B=" + before + "(C)", 3);
            for (String behind : new String[] {"*", "+", "?"}) {
                step("B=" + before + "C" + behind, 4);
            }
        }
        step("B=&(&(&(&C)))", 6);
    }

    private static void severalAtOnce() {
        due.sentence("Terms", "are one deeper than that in which they are;");
        step("B=b/Cb", 4);
        step("B=b/C*", 4);
        step("B=b?C+", 4);
        step("B=b/!C", 4);
        step("B=(b/C)b", 4);
        step("B=(C/b)*", 4);
        step("B=(Cb)?", 4);
        step("B=b/(b/C)", 4);
        step("B=b/b?(C)", 4);
        step("B=(b/(b/C))", 4);
        step("B=b/b?&C", 5);
        step("B=(Cb)b/c", 5);
        step("B=b/b?&C*", 6);
        step("B=(b/(b/(b/(b/C))))", 6);
        step("B=b?(b?(b?(b?C)))", 6);
        step("B=b/b?(b/b?(b/!C?))", 9);
    }

    private static void expressionOfRule() {
        due.sentence("Terms", "the expression of a rule is at the rule's depth;");
        // Its letters and the like are not worked out, so they may lie below 40: here as deep as 49.
        ChoiceParser x = Use.feed(Use.parser("A=aA/(b/(c/!d?(&e*/f)))"), "a".repeat(9));
        due.is("row and part with each letter, 1 + 4 * 9", tooDeep(x, 0, 0), false);
        ChoiceParser y = Use.feed(Use.parser("A=aA/(b/(c/!d?(&e*/f)))"), "a".repeat(10));
        due.is("row and part with each letter, 1 + 4 * 10", tooDeep(y, 0, 0), true);
        step("B=C", 2);
    }

    private static void ruleForItsLetter() {
        due.sentence("Terms", "a rule that is worked out for its letter is two deeper than that letter.");
        step("B=C", 2);
        // Rules that are each other's whole expression, round and round: 1, 3, .. 11, then 15.
        String[] ring = {"A=B", "B=C", "C=D", "D=E", "E=F", "F=aA?"};
        for (int rule = 0; rule < 6; rule++) {
            for (int letters = 0; letters <= 5; letters++) {
                ChoiceParser x = Use.feed(Use.parser(ring), "a".repeat(letters));
                int deepest = 1 + 14 * letters + 10 - 2 * rule;
                due.is("ring from " + rule + " on " + letters, tooDeep(x, rule, 0), deepest > 40);
            }
        }
    }

    private static void memoryFirst() {
        due.sentence("Terms", "To match a rule at a place, the memory is asked first; if it has nothing, the rule is WORKED"
            + " OUT there, and then the memory has it.");
        // What the memory has need not be worked out, at whatever depth.
        ChoiceParser x = Use.feed(Use.parser("A=aA/b"), "a".repeat(12) + "b");
        due.is("too deep", tooDeep(x, 0, 0), true);
        due.is("from the middle", x.match(0, 6), 13);
        due.is("begun", x.count(4), 10 + 7);
        due.is("remembered", x.count(5), 0);
        due.is("from the beginning", x.match(0, 0), 13);
        due.is("begun", x.count(4), 10 + 7 + 6);
        due.is("remembered", x.count(5), 1);
        due.is("the whole memory", Use.memory(x, 0), "13" + " 13".repeat(12) + " -2");
    }

    private static void above40() {
        due.sentence("Promise 9", "a rule would have to be worked out at a depth above 40");
        // A is four deeper with each letter, from where B leads to it: two, three or four below 1.
        due.is("39", tooDeep(Use.feed(Use.parser("A=aA/b", "B=A"), "a".repeat(9) + "b"), 1, 0), false);
        due.is("40", tooDeep(Use.feed(Use.parser("A=aA/b", "B=!A"), "a".repeat(9) + "b"), 1, 0), false);
        due.is("41", tooDeep(Use.feed(Use.parser("A=aA/b", "B=!A?"), "a".repeat(9) + "b"), 1, 0), true);
        due.is("37", tooDeep(Use.feed(Use.parser("A=aA/b"), "a".repeat(9) + "b"), 0, 0), false);
        due.is("41", tooDeep(Use.feed(Use.parser("A=aA/b"), "a".repeat(10) + "b"), 0, 0), true);
        // The ninth A is at 37, and B a row or a row and a part below it, whatever it would give there.
        for (String last : new String[] {"b", "!b", ".?"}) {
            ChoiceParser x = Use.feed(Use.parser("A=aA/B", "B=" + last), "a".repeat(9));
            due.is("B=" + last + " at 40", tooDeep(x, 0, 0), false);
            ChoiceParser y = Use.feed(Use.parser("A=aA/!.B", "B=" + last), "a".repeat(9));
            due.is("B=" + last + " at 41", tooDeep(y, 0, 0), true);
        }
    }
}
