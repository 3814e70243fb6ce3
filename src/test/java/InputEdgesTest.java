/** The edges of the input, of feed() and of clear(): a test for each sentence that names one. */
public final class InputEdgesTest {
    private static final Due due = new Due();
    private static final String TWENTY = "abcdefghiabcdefghiab";

    public static void main(String[] args) {
        letters();
        atMost20();
        placesOfInput();
        howMany();
        noLetter();
        thereAre20();
        clearedInput();
        howManyThereWere();
        due.end();
    }

    private static void letters() {
        due.sentence("Terms", "LETTERS are a .. i.");
        ChoiceParser x = new ChoiceParser();
        due.throwsA("feed(`)", IllegalArgumentException.class, () -> x.feed('`'));
        due.is("feed(a)", x.feed('a'), 1);
        due.is("feed(b)", x.feed('b'), 2);
        due.is("feed(h)", x.feed('h'), 3);
        due.is("feed(i)", x.feed('i'), 4);
        due.throwsA("feed(j)", IllegalArgumentException.class, () -> x.feed('j'));
    }

    private static void atMost20() {
        due.sentence("Terms", "the INPUT (at most 20 letters;");
        ChoiceParser x = Use.parser("A=.*", "B=.b");
        for (int n = 1; n <= 20; n++) {
            due.is("feed no. " + n, x.feed(TWENTY.charAt(n - 1)), n);
            due.is("letters", x.count(2), n);
            due.is("match of all " + n, x.match(0, 0), n);
        }
        due.throwsA("feed no. 21", IllegalStateException.class, () -> x.feed('c'));
        due.is("letters", x.count(2), 20);
        due.is("match of all", x.match(0, 0), 20);
        due.is("the last two letters", x.match(1, 18), 20);
        due.throwsA("place 21", IllegalArgumentException.class, () -> x.match(0, 21));
    }

    private static void placesOfInput() {
        due.sentence("Terms", "places 0 .. their count)");
        for (int letters : new int[] {0, 1, 2, 19, 20}) {
            ChoiceParser x = Use.feed(Use.parser("A=.*"), TWENTY.substring(0, letters));
            for (int place = 0; place <= letters; place++) {
                due.is("memory at " + place + " of " + letters, x.memory(0, place), -2);
                due.is("match at " + place + " of " + letters, x.match(0, place), letters);
                due.is("memory at " + place + " of " + letters, x.memory(0, place), letters);
            }
            for (int none : new int[] {Integer.MIN_VALUE, -1, letters + 1, letters + 2, Integer.MAX_VALUE}) {
                noPlace(x, none);
            }
        }
    }

    private static void noPlace(ChoiceParser x, int place) {
        due.throwsA("match at " + place, IllegalArgumentException.class, () -> x.match(0, place));
        due.throwsA("memory at " + place, IndexOutOfBoundsException.class, () -> x.memory(0, place));
    }

    private static void howMany() {
        due.sentence("Promise 5", "Puts a letter behind the input: how many there are.");
        ChoiceParser x = Use.parser("A=abc", "B=c!.");
        due.is("feed(a)", x.feed('a'), 1);
        due.is("match of abc on a", x.match(0, 0), -1);
        due.is("feed(b)", x.feed('b'), 2);
        due.is("match of abc on ab", x.match(0, 0), -1);
        due.is("feed(c)", x.feed('c'), 3);
        due.is("match of abc on abc", x.match(0, 0), 3);
        due.is("match of the last one", x.match(1, 2), 3);
        due.is("count(2)", x.count(2), 3);
    }

    private static void noLetter() {
        due.sentence("Promise 5", "IllegalArgumentException: it is no letter.");
        for (int c = 0; c <= Character.MAX_VALUE; c++) {
            ChoiceParser x = new ChoiceParser();
            char one = (char) c;
            if (one >= 'a' && one <= 'i') {
                due.is("feed(" + c + ")", x.feed(one), 1);
            } else {
                due.throwsA("feed(" + c + ")", IllegalArgumentException.class, () -> x.feed(one));
                due.is("letters after feed(" + c + ")", x.count(2), 0);
            }
        }
        // Of both reasons to refuse, this one is named first.
        ChoiceParser full = Use.feed(new ChoiceParser(), TWENTY);
        due.throwsA("feed(j), 20 are there", IllegalArgumentException.class, () -> full.feed('j'));
        due.throwsA("feed(A), 20 are there", IllegalArgumentException.class, () -> full.feed('A'));
    }

    private static void thereAre20() {
        due.sentence("Promise 5", "IllegalStateException: there are 20.");
        ChoiceParser x = Use.feed(Use.parser("A=.*"), TWENTY.substring(0, 18));
        due.is("feed no. 19", x.feed('a'), 19);
        due.is("feed no. 20", x.feed('b'), 20);
        due.is("match", x.match(0, 3), 20);
        String before = Use.state(x);
        for (char c = 'a'; c <= 'i'; c++) {
            char one = c;
            due.throwsA("feed no. 21, " + c, IllegalStateException.class, () -> x.feed(one));
        }
        due.is("all after it", Use.state(x), before);
        due.is("tree after it", Use.tree(x), "0A3-20");
    }

    private static void clearedInput() {
        due.sentence("Promise 6", "The input is empty then");
        ChoiceParser x = Use.feed(Use.parser("A=.*"), TWENTY);
        due.is("clear()", x.clear(), 20);
        due.is("letters", x.count(2), 0);
        due.is("match at 0", x.match(0, 0), 0);
        noPlace(x, 1);
        noPlace(x, 20);
        for (int n = 1; n <= 20; n++) {
            due.is("feed no. " + n + " again", x.feed('c'), n);
        }
        due.throwsA("feed no. 21 again", IllegalStateException.class, () -> x.feed('c'));
        Use.rule(x, "A=c*");
        due.is("only the new letters", x.match(0, 0), 20);
        x.clear();
        x.feed('c');
        due.is("one letter, none of the old ones behind it", x.match(0, 0), 1);
    }

    private static void howManyThereWere() {
        due.sentence("Promise 6", "how many letters there were.");
        ChoiceParser x = new ChoiceParser();
        for (int letters : new int[] {0, 1, 2, 19, 20, 0, 20}) {
            Use.feed(x, TWENTY.substring(0, letters));
            due.is("clear() of " + letters, x.clear(), letters);
            due.is("clear() again", x.clear(), 0);
        }
    }
}
