import java.util.NoSuchElementException;
import java.util.function.ToIntFunction;

/** The edges of an object's whole life: a test for each sentence that names one. */
public final class ObjectEdgesTest {
    private static final Due due = new Due();
    private static final String A20 = "a".repeat(20);

    public static void main(String[] args) {
        newOne();
        newOneBesideAnother();
        callsOfMatch();
        callsOfRule();
        callsOfInput();
        exceptionsChangeNothing();
        exceptionsOfMissing();
        exceptionOfFullInput();
        exceptionsOfMatch();
        due.end();
    }

    private static void empty(ChoiceParser x) {
        due.is("counts", Use.counts(x), "0 0 0 0 0 0");
        due.is("check()", x.check(), 1);
        due.is("full()", x.full(), 0f);
        for (int rule = 0; rule < 6; rule++) {
            int r = rule;
            due.is("memory(" + rule + ", 0)", x.memory(rule, 0), -2);
            due.throwsA("memory(" + rule + ", 1)", IndexOutOfBoundsException.class, () -> x.memory(r, 1));
            due.throwsA("outcomes(" + rule + ")", NoSuchElementException.class, () -> x.outcomes(r));
            due.throwsA("match(" + rule + ", 0)", NoSuchElementException.class, () -> x.match(r, 0));
            due.is("drop(" + rule + ")", x.drop(rule), false);
        }
        due.throwsA("node(0, 0)", IndexOutOfBoundsException.class, () -> x.node(0, 0));
        due.is("clear()", x.clear(), 0);
        due.is("rule()", x.rule(), 1);
        due.is("counts after it", Use.counts(x), "0 0 0 0 0 0");
    }

    private static void newOne() {
        due.sentence("Promise 1", "No rules, an empty pad, input, memory, tree.");
        empty(new ChoiceParser());
        ChoiceParser x = new ChoiceParser();
        due.is("the first character", x.type('A'), true);
        due.is("characters", x.count(1), 1);
        due.is("the first letter", x.feed('a'), 1);
        due.is("the first rule", Use.rule(x, "=a"), 0);
        due.is("the first match", x.match(0, 0), 1);
    }

    private static void newOneBesideAnother() {
        due.sentence("Promise 1", "No rules, an empty pad, input, memory, tree.");
        ChoiceParser x = Use.feed(Use.parser("A=a", "B=AA"), "aa");
        Use.type(x, "C=");
        due.is("match", x.match(1, 0), 2);
        String before = Use.state(x);
        empty(new ChoiceParser());
        ChoiceParser y = Use.feed(Use.parser("A=b", "B=c"), "bc");
        due.is("match of the other", y.match(0, 0), 1);
        due.is("the first one", Use.state(x), before);
        due.is("tree of the first one", Use.tree(x), "0B0-2 1A0-1 1A1-2");
    }

    private static void sentenceOfCalls() {
        due.sentence("What it is", "An object is used for at most 512 calls after it has been made;");
    }

    private static void callsOfMatch() {
        sentenceOfCalls();
        // Calls 1 to 17 are three texts of four characters and the input.
        ChoiceParser x = Use.feed(Use.parser("A=BB", "B=Ca", "C=!b"), "aa");
        for (int call = 18; call <= 511; call++) {
            due.is("call " + call, x.match(0, 0), 2);
        }
        // All but the first of them were answered from the memory.
        due.is("call 512", x.count(5), 493);
    }

    private static void callsOfRule() {
        sentenceOfCalls();
        ChoiceParser x = new ChoiceParser();
        for (int n = 0; n < 20; n++) {
            String text = (char) ('A' + n % 6) + "=" + "ab?/(c)*".repeat(2) + "&i.*d";
            for (char c : text.toCharArray()) {
                due.is("type", x.type(c), true);
            }
            due.is("rule() no. " + n, x.rule(), 0);
        }
        // 20 * 24 calls; 25 more for one text of 24, and 7 behind it.
        due.is("rule() of 24", Use.rule(x, "A=" + "(a/b)".repeat(4) + "b*"), 0);
        due.is("call 506", x.count(0), 6);
        due.is("call 507", x.check(), 0);
        due.is("call 508", x.outcomes(0), 6);
        due.is("call 509", x.feed('a'), 1);
        due.is("call 510", x.match(0, 0), -1);
        due.is("call 511", x.memory(0, 0), -1);
        due.is("call 512", x.full(), 1f / 12f);
    }

    private static void callsOfInput() {
        sentenceOfCalls();
        ChoiceParser x = new ChoiceParser();
        for (int n = 0; n < 24; n++) {
            for (int letters = 1; letters <= 20; letters++) {
                due.is("feed", x.feed('a'), letters);
            }
            due.is("clear()", x.clear(), 20);
        }
        for (int letters = 1; letters <= 7; letters++) {
            due.is("feed", x.feed('a'), letters);
        }
        due.is("call 512", x.clear(), 7);
    }

    private static void sentenceOfExceptions() {
        due.sentence("Terms", "EXCEPTIONS: a call ends by the first that holds, in the order named with it; it changes"
            + " nothing then, if nothing else is said.");
    }

    /** Has rules, a pad with C=, an input, a memory and a tree. */
    private static ChoiceParser used() {
        ChoiceParser x = Use.feed(Use.parser("A=a", "B=Ab"), "ab");
        x.match(0, 1);
        x.match(1, 0);
        Use.type(x, "C=");
        return x;
    }

    private static void changesNothing(String call, Class<? extends RuntimeException> want, ChoiceParser x,
            ToIntFunction<ChoiceParser> body) {
        String state = Use.state(x);
        String tree = Use.tree(x);
        due.throwsA(call, want, () -> body.applyAsInt(x));
        due.is("all after " + call, Use.state(x), state);
        due.is("tree after " + call, Use.tree(x), tree);
    }

    private static void refused(String call, Class<? extends RuntimeException> want, ToIntFunction<ChoiceParser> body) {
        ChoiceParser x = used();
        changesNothing(call, want, x, body);
        goesOn(call, x);
    }

    /** The pad's text and the letters are still those of before. */
    private static void goesOn(String call, ChoiceParser x) {
        x.type('b');
        due.is("rule() of C=b after " + call, x.rule(), 0);
        due.is("match of A after " + call, x.match(0, 0), 1);
        due.is("match of B after " + call, x.match(1, 0), 2);
        due.is("match of C after " + call, x.match(2, 1), 2);
        due.throwsA("place 3 after " + call, IllegalArgumentException.class, () -> x.match(0, 3));
    }

    private static void exceptionsChangeNothing() {
        sentenceOfExceptions();
        refused("drop(-1)", NoSuchElementException.class, x -> x.drop(-1) ? 1 : 0);
        refused("drop(6)", NoSuchElementException.class, x -> x.drop(6) ? 1 : 0);
        refused("feed(`)", IllegalArgumentException.class, x -> x.feed('`'));
        refused("feed(j)", IllegalArgumentException.class, x -> x.feed('j'));
        refused("outcomes(-1)", NoSuchElementException.class, x -> x.outcomes(-1));
        refused("outcomes(6)", NoSuchElementException.class, x -> x.outcomes(6));
        refused("outcomes(2)", NoSuchElementException.class, x -> x.outcomes(2));
        refused("memory(-1, 0)", IndexOutOfBoundsException.class, x -> x.memory(-1, 0));
        refused("memory(6, 0)", IndexOutOfBoundsException.class, x -> x.memory(6, 0));
        refused("memory(0, -1)", IndexOutOfBoundsException.class, x -> x.memory(0, -1));
        refused("memory(0, 3)", IndexOutOfBoundsException.class, x -> x.memory(0, 3));
        refused("node(-1, 0)", IndexOutOfBoundsException.class, x -> x.node(-1, 0));
        refused("node(2, 0)", IndexOutOfBoundsException.class, x -> x.node(2, 0));
        refused("node(0, -1)", IndexOutOfBoundsException.class, x -> x.node(0, -1));
        refused("node(0, 4)", IndexOutOfBoundsException.class, x -> x.node(0, 4));
        refused("count(-1)", IndexOutOfBoundsException.class, x -> x.count(-1));
        refused("count(6)", IndexOutOfBoundsException.class, x -> x.count(6));
    }

    private static void exceptionsOfMissing() {
        sentenceOfExceptions();
        ChoiceParser x = used();
        Use.rule(x, "D");
        Use.rule(x, "D=E");
        changesNothing("outcomes(0), one missing", IllegalStateException.class, x, y -> y.outcomes(0));
        changesNothing("outcomes(3), one missing", IllegalStateException.class, x, y -> y.outcomes(3));
        x.drop(3);
        Use.type(x, "C=");
        goesOn("outcomes, one missing", x);
    }

    private static void exceptionOfFullInput() {
        sentenceOfExceptions();
        ChoiceParser x = Use.feed(Use.parser("A=a*", "B=A"), A20);
        x.match(1, 3);
        changesNothing("feed(b), 20 are there", IllegalStateException.class, x, y -> y.feed('b'));
        due.is("match after it", x.match(1, 3), 20);
    }

    private static void refusedMatch(String why, Class<? extends RuntimeException> want, ChoiceParser x, int rule,
            int place) {
        String state = Use.state(x);
        due.is("tree before a match with " + why, x.count(3) > 0, true);
        due.throwsA("match with " + why, want, () -> x.match(rule, place));
        due.is("all but the tree after a match with " + why, Use.state(x), state);
        due.is("tree after a match with " + why, x.count(3), 0);
    }

    /** Of these it is said that the tree is empty then; nothing else changes. */
    private static void exceptionsOfMatch() {
        sentenceOfExceptions();
        int[][] none = {{-1, 0}, {6, 0}, {2, 0}, {6, 3}, {2, -1}};
        for (int[] args : none) {
            ChoiceParser x = used();
            refusedMatch("no rule", NoSuchElementException.class, x, args[0], args[1]);
            goesOn("match with no rule", x);
        }
        for (int place : new int[] {-1, 3}) {
            ChoiceParser x = used();
            refusedMatch("no place", IllegalArgumentException.class, x, 0, place);
            goesOn("match with no place", x);
        }
        for (String unsound : new String[] {"D=D", "D=E", "F=(a?)*"}) {
            ChoiceParser x = used();
            x.rule();
            Use.rule(x, unsound);
            refusedMatch(unsound, IllegalStateException.class, x, 0, 0);
            x.drop(unsound.charAt(0) - 'A');
            Use.type(x, "C=");
            goesOn("match with " + unsound, x);
        }
    }
}
