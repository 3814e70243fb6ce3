/** Promise 9: match. Its edges are in MatchEdgesTest and DepthEdgesTest. */
public final class MatchTest {
    private static final Due due = new Due();

    public static void main(String[] args) {
        kinds();
        choices();
        places();
        depths();
        memorySavesDepth();
        due.end();
    }

    private static void goes(String text, String input, int want) {
        ChoiceParser x = Use.feed(Use.parser(text), input);
        due.is(text + " on " + input, x.match(text.charAt(0) - 'A', 0), want);
    }

    private static void kinds() {
        goes("A=a", "a", 1);
        goes("A=a", "b", -1);
        goes("A=a", "", -1);
        goes("A=.", "i", 1);
        goes("A=.", "", -1);
        goes("A=[b-d]", "a", -1);
        goes("A=[b-d]", "b", 1);
        goes("A=[b-d]", "d", 1);
        goes("A=[b-d]", "e", -1);
        goes("A=[c-c]", "c", 1);
        goes("A=abc", "abc", 3);
        goes("A=abc", "abd", -1);
        goes("A=a*", "", 0);
        goes("A=a*", "aaaaaaaaaaaaaaaaaaaa", 20);
        goes("A=a+", "aab", 2);
        goes("A=a+", "b", -1);
        goes("A=a?", "aa", 1);
        goes("A=a?", "b", 0);
        goes("A=&ab", "ab", -1);
        goes("A=&a.b", "ab", 2);
        goes("A=!a", "b", 0);
        goes("A=!a", "a", -1);
        goes("A=!.", "", 0);
        goes("A=&a+b*", "aab", 0);
        goes("A=&a+", "aab", 0);
        goes("A=!a*", "b", -1);
        goes("A=!a?", "a", -1);
        goes("A=!(ab)a", "ac", 1);
    }

    private static void choices() {
        goes("A=a/ab", "ab", 1);
        goes("A=ab/a", "ac", 1);
        goes("A=a*a", "aaa", -1);
        goes("A=a?a", "a", -1);
        goes("A=(a/ab)c", "abc", -1);
        goes("A=(ab/a)c", "abc", 3);
        goes("A=(ab)*a", "ababa", 5);
        goes("A=(ab)*a", "abab", -1);
        goes("A=(ab)+", "abac", 2);
        goes("A=aAb/ab", "aabb", 4);
        goes("A=aAb/c", "aacbb", 5);
        goes("A=aAb/c", "aacb", -1);
    }

    private static void places() {
        ChoiceParser x = Use.feed(Use.parser("A=a*"), "aaa");
        for (int place = 0; place <= 3; place++) {
            due.is("match at " + place, x.match(0, place), 3);
        }
        due.throwsA("match at 4", IllegalArgumentException.class, () -> x.match(0, 4));
        due.throwsA("match at -1", IllegalArgumentException.class, () -> x.match(0, -1));
    }

    /** Rule A of the text calls itself once a letter; it can be worked out on this many, no more. */
    private static void deepest(String text, int letters) {
        String input = "aaaaaaaaaaaaaaaaaaaa";
        ChoiceParser x = Use.feed(Use.parser(text), input);
        due.throwsA(text + " too deep", IllegalStateException.class, () -> x.match(0, 20 - letters - 1));
        due.is(text + " begun", x.count(4), letters + 1);
        due.is(text + " tree", x.count(3), 0);
        ChoiceParser y = Use.feed(Use.parser(text), input);
        due.is(text + " not too deep", y.match(0, 20 - letters), 20);
        due.is(text + " all begun", y.count(4), letters + 1);
    }

    private static void depths() {
        // 4: a row of a choice, a part of that row, and two for the letter of the rule.
        deepest("A=aA/!.", 9);
        deepest("A=!./aA", 9);
        deepest("A=!./((a((A))))", 9);
        // 4: a part, what the sign stands at, and two.
        deepest("A=aA?", 9);
        deepest("A=aA*", 9);
        // 5: a row, a part, what the sign stands at, and two.
        deepest("A=aA+/a", 7);
        deepest("A=b/aA*", 7);
        deepest("A=!./a&A.*", 7);
        // 5: a row, a part, a row or part in the group, and two.
        deepest("A=!./a(A/b)", 7);
        deepest("A=!./a(Ab?)", 7);
        deepest("A=!./a(&(.*)A)", 7);
        // 6: with two signs.
        deepest("A=a&A+.*/a", 6);
        deepest("A=a!(!A).*/a", 6);
        chain();
    }

    /** Rules that are each other's whole expression are two apart. */
    private static void chain() {
        ChoiceParser x = Use.parser("A=B", "B=C", "C=D", "D=E", "E=F", "F=aA?");
        Use.feed(x, "aaaaaaaaaaaaaaaaaaaa");
        // A ring is 10 for A to F, then a part, what ? stands at, and two: 14.
        due.is("chain of three rings", x.match(0, 18), 20);
        due.throwsA("chain too deep", IllegalStateException.class, () -> x.match(0, 14));
    }

    private static void memorySavesDepth() {
        ChoiceParser x = Use.feed(Use.parser("A=aA/B", "B=!."), "aaaaaaaaaaaaaaaaaaaa");
        due.throwsA("too deep at 0", IllegalStateException.class, () -> x.match(0, 0));
        due.is("nothing was worked out whole", String.valueOf(x.full()), "0.0");
        due.is("from the middle", x.match(0, 12), 20);
        due.is("up to the middle", x.match(0, 3), 20);
        due.is("from the beginning", x.match(0, 0), 20);
        due.is("nodes of all", x.count(3), 22);
        due.is("the last of all", x.node(21, 3), 21);

        ChoiceParser y = Use.feed(Use.parser("A=C(aA/B)", "B=!.", "C=&."), "aaaaaaaaaaaaaaaaaaaa");
        due.throwsA("too deep again", IllegalStateException.class, () -> y.match(0, 0));
        due.is("C was worked out whole", y.memory(2, 0), 0);
        due.is("A was not", y.memory(0, 0), -2);
        int had = y.count(5);
        due.throwsA("too deep once more", IllegalStateException.class, () -> y.match(0, 0));
        due.is("C is remembered", y.count(5) > had, true);
    }
}
