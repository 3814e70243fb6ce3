/** Promises 10, 12 and 13: memory, count, full. Their edges are in MemoryEdgesTest. */
public final class MemoryTest {
    private static final Due due = new Due();

    public static void main(String[] args) {
        memory();
        counts();
        hits();
        full();
        due.end();
    }

    private static void memory() {
        ChoiceParser x = Use.feed(Use.parser("A=Bc/B", "B=ab"), "abab");
        due.is("match", x.match(0, 0), 2);
        due.is("memory of A", Use.memory(x, 0), "2 -2 -2 -2 -2");
        due.is("memory of B", Use.memory(x, 1), "2 -2 -2 -2 -2");
        due.is("match that fails", x.match(0, 1), -1);
        due.is("memory of A, failing", Use.memory(x, 0), "2 -1 -2 -2 -2");
        due.is("memory of B, failing", Use.memory(x, 1), "2 -1 -2 -2 -2");
        due.is("memory of a rule without expression", Use.memory(x, 5), "-2 -2 -2 -2 -2");
        int[][] wrong = {{-1, 0}, {6, 0}, {0, -1}, {0, 5}, {Integer.MIN_VALUE, 0}, {0, Integer.MAX_VALUE}};
        for (int[] w : wrong) {
            due.throwsA("memory(" + w[0] + ", " + w[1] + ")", IndexOutOfBoundsException.class,
                    () -> x.memory(w[0], w[1]));
        }
        due.is("counts are not changed by memory()", Use.counts(x), "2 0 4 0 4 2");
        ChoiceParser star = Use.feed(Use.parser("A=B*", "B=a"), "aaaaaaaaaaaaaaaaaaaa");
        due.is("match of all letters", star.match(0, 0), 20);
        due.is("the last time of *, which fails", star.memory(1, 20), -1);
        due.is("begun of all letters", star.count(4), 22);
        ChoiceParser full = Use.feed(Use.parser("F=a*"), "aaaaaaaaaaaaaaaaaaaa");
        full.match(5, 20);
        due.is("memory of the last rule at the last place", full.memory(5, 20), 20);
        due.throwsA("memory(5, 21)", IndexOutOfBoundsException.class, () -> full.memory(5, 21));
    }

    private static void counts() {
        ChoiceParser x = Use.feed(Use.parser("A=a", "C=A*"), "aaab");
        Use.type(x, "B=");
        due.is("counts before", Use.counts(x), "2 2 4 0 0 0");
        x.match(2, 0);
        due.is("counts after", Use.counts(x), "2 2 4 4 5 0");
        due.throwsA("count(-1)", IndexOutOfBoundsException.class, () -> x.count(-1));
        due.throwsA("count(6)", IndexOutOfBoundsException.class, () -> x.count(6));
        x.clear();
        due.is("begun since the beginning", Use.counts(x), "2 2 0 4 5 0");
    }

    private static void hits() {
        ChoiceParser x = Use.feed(Use.parser("A=&B!(Bc)B", "B=a"), "ab");
        due.is("match", x.match(0, 0), 1);
        due.is("begun", x.count(4), 2);
        due.is("had", x.count(5), 2);
        due.is("match again", x.match(0, 0), 1);
        due.is("begun again", x.count(4), 2);
        due.is("had again", x.count(5), 3);
        due.is("tree of what is remembered", Use.tree(x), "0A0-1 1B0-1");
        due.is("match of what was inside", x.match(1, 0), 1);
        due.is("had once more", x.count(5), 4);
        due.is("match of a failing one", x.match(0, 1), -1);
        due.is("match of a failing one again", x.match(0, 1), -1);
        due.is("had after failing", x.count(5), 5);
        due.throwsA("no place", IllegalArgumentException.class, () -> x.match(0, 3));
        due.is("counts after an exception", Use.counts(x), "2 0 2 0 4 5");
    }

    private static void full(ChoiceParser x, String when, float want) {
        due.is("full() " + when, String.valueOf(x.full()), String.valueOf(want));
    }

    private static void full() {
        ChoiceParser x = new ChoiceParser();
        full(x, "without rules", 0f);
        Use.feed(x, "aa");
        full(x, "without rules, with input", 0f);
        Use.rule(x, "A=aA/a");
        full(x, "before a match", 0f);
        x.match(0, 2);
        full(x, "a third", 1f / 3f);
        x.match(0, 0);
        full(x, "all", 1f);
        Use.rule(x, "F=a");
        full(x, "after a rule", 0f);
        x.match(0, 1);
        full(x, "2 of 6", 2f / 6f);
        x.feed('b');
        full(x, "after feed", 0f);
        x.match(5, 0);
        full(x, "1 of 8", 1f / 8f);
        x.drop(0);
        x.drop(5);
        full(x, "without rules again", 0f);
    }
}
