/** Promises 5 and 6: feed, clear. Their edges are in InputEdgesTest. */
public final class InputTest {
    private static final Due due = new Due();

    public static void main(String[] args) {
        feed();
        wrongLetters();
        clear();
        due.end();
    }

    private static void feed() {
        ChoiceParser x = Use.parser("A=abc");
        String letters = "abcabc";
        for (int i = 0; i < letters.length(); i++) {
            due.is("feed no. " + i, x.feed(letters.charAt(i)), i + 1);
            due.is("letters", x.count(2), i + 1);
        }
        due.is("match of the first three", x.match(0, 0), 3);
        due.is("match of the last three", x.match(0, 3), 6);
    }

    private static void wrongLetters() {
        ChoiceParser x = Use.feed(Use.parser("A=a"), "a");
        x.match(0, 0);
        for (char wrong : "`jA= \0\uffff".toCharArray()) {
            due.throwsA("feed " + (int) wrong, IllegalArgumentException.class, () -> x.feed(wrong));
        }
        due.is("letters after wrong ones", x.count(2), 1);
        due.is("memory after wrong ones", Use.memory(x, 0), "1 -2");
        due.is("feed after wrong ones", x.feed('b'), 2);
        due.is("memory after feed", Use.memory(x, 0), "-2 -2 -2");
        due.is("tree after feed", Use.tree(x), "0A0-1");
    }

    private static void clear() {
        ChoiceParser x = Use.parser("A=a*");
        due.is("clear() of nothing", x.clear(), 0);
        due.is("match on no input", x.match(0, 0), 0);
        due.is("clear() of nothing again", x.clear(), 0);
        due.is("memory after clear() that answers 0", x.memory(0, 0), 0);
        Use.feed(x, "aab");
        due.is("match", x.match(0, 0), 2);
        due.is("clear()", x.clear(), 3);
        due.is("letters after clear()", x.count(2), 0);
        due.is("memory after clear()", x.memory(0, 0), -2);
        due.is("tree after clear()", Use.tree(x), "0A0-2");
        due.throwsA("place after clear()", IllegalArgumentException.class, () -> x.match(0, 1));
        due.is("feed after clear()", x.feed('b'), 1);
        due.is("match after clear()", x.match(0, 0), 0);
    }
}
