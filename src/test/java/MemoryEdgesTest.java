/** The edges of memory(), count() and full(): a test for each sentence that names one. */
public final class MemoryEdgesTest {
    private static final Due due = new Due();
    private static final String A20 = "a".repeat(20);
    /** Before a change: A went from 0 to 1 and fails at 1, B went from 0 to 2. */
    private static final String FILLED = "1 -1 -2, 2 -2 -2";
    private static final String EMPTIED = "-2 -2 -2, -2 -2 -2";

    public static void main(String[] args) {
        emptiedByRule();
        emptiedByDrop();
        emptiedByFeed();
        emptiedByClear();
        keptByOthers();
        askedFirst();
        whatItHas();
        noRuleOrPlace();
        countsOfRules();
        countsOfCharacters();
        countsOfNodes();
        countsOfWork();
        noneOfTheCounts();
        partOfTheMemory();
        fullWithoutRules();
        due.end();
    }

    private static ChoiceParser filled() {
        ChoiceParser x = Use.feed(Use.parser("A=a", "B=Ab"), "ab");
        x.match(1, 0);
        x.match(0, 1);
        due.is("memory before", memories(x), FILLED);
        due.is("full before", x.full(), 3f / 6f);
        return x;
    }

    private static String memories(ChoiceParser x) {
        return Use.memory(x, 0) + ", " + Use.memory(x, 1);
    }

    private static void same(String call, ChoiceParser x) {
        due.is("memory after " + call, memories(x), FILLED);
        due.is("full after " + call, x.full(), 3f / 6f);
    }

    private static void sentenceOfChanges() {
        due.sentence("Terms", "A change of a rule or of the input (rule() that answers 0, drop() that answers true,"
            + " feed(), clear() that answers more than 0) empties it.");
    }

    private static void emptiedByRule() {
        sentenceOfChanges();
        for (String text : new String[] {"A=b", "A=a", "B=Ab", "F=a", "B=B"}) {
            ChoiceParser x = filled();
            Use.type(x, text);
            same("type()", x);
            due.is("rule() of " + text, x.rule(), 0);
            due.is("memory after " + text, memories(x), EMPTIED);
            due.is("full after " + text, x.full(), 0f);
        }
        ChoiceParser y = filled();
        for (String text : new String[] {"", "A", "A=", "A=b/", "B=Ab)", "F=a="}) {
            due.is("rule() of a fault", Use.rule(y, text) > 0, true);
            same("a fault", y);
        }
    }

    private static void emptiedByDrop() {
        sentenceOfChanges();
        ChoiceParser x = filled();
        due.is("drop(2)", x.drop(2), false);
        same("drop() that answers false", x);
        due.throwsA("drop(6)", java.util.NoSuchElementException.class, () -> x.drop(6) ? 1 : 0);
        same("drop() that throws", x);
        due.is("drop(1)", x.drop(1), true);
        due.is("memory after drop(1)", memories(x), EMPTIED);
        due.is("full after drop(1)", x.full(), 0f);
        ChoiceParser y = filled();
        Use.rule(y, "F=a");
        y.match(1, 0);
        due.is("drop(5), which B does not need", y.drop(5), true);
        due.is("memory after drop(5)", memories(y), EMPTIED);
    }

    private static void emptiedByFeed() {
        sentenceOfChanges();
        ChoiceParser x = filled();
        due.throwsA("feed(j)", IllegalArgumentException.class, () -> x.feed('j'));
        same("feed() that throws", x);
        due.is("feed(a)", x.feed('a'), 3);
        due.is("memory after feed", memories(x), "-2 -2 -2 -2, -2 -2 -2 -2");
        due.is("full after feed", x.full(), 0f);
        ChoiceParser y = Use.feed(Use.parser("A=a*"), A20.substring(1));
        y.match(0, 3);
        due.is("feed no. 20", y.feed('a'), 20);
        due.is("memory after feed no. 20", y.memory(0, 3), -2);
        y.match(0, 3);
        due.throwsA("feed no. 21", IllegalStateException.class, () -> y.feed('a'));
        due.is("memory after feed no. 21", y.memory(0, 3), 20);
    }

    private static void emptiedByClear() {
        sentenceOfChanges();
        ChoiceParser x = filled();
        due.is("clear()", x.clear(), 2);
        due.is("memory after clear()", memories(x), "-2, -2");
        due.is("full after clear()", x.full(), 0f);
        Use.feed(x, "ab");
        due.is("memory after clear() and the same letters", memories(x), EMPTIED);
        ChoiceParser y = Use.parser("A=a", "B=Ab");
        y.match(1, 0);
        due.is("memory without letters", memories(y), "-1, -1");
        due.is("clear() of nothing", y.clear(), 0);
        due.is("memory after clear() that answers 0", memories(y), "-1, -1");
        due.is("full after clear() that answers 0", y.full(), 1f);
        y.feed('a');
        y.match(0, 0);
        due.is("clear() of one", y.clear(), 1);
        due.is("memory after clear() that answers 1", memories(y), "-2, -2");
    }

    /** The calls that are no change of a rule or of the input. */
    private static void keptByOthers() {
        sentenceOfChanges();
        ChoiceParser x = filled();
        x.type('A');
        same("type()", x);
        x.check();
        same("check()", x);
        x.outcomes(0);
        same("outcomes()", x);
        x.match(0, 0);
        same("match() that goes", x);
        x.match(0, 1);
        same("match() that fails", x);
        due.throwsA("match(2, 0)", java.util.NoSuchElementException.class, () -> x.match(2, 0));
        due.throwsA("match(0, 3)", IllegalArgumentException.class, () -> x.match(0, 3));
        same("match() that throws", x);
        due.throwsA("memory(6, 0)", IndexOutOfBoundsException.class, () -> x.memory(6, 0));
        due.throwsA("node(0, 4)", IndexOutOfBoundsException.class, () -> x.node(0, 4));
        due.throwsA("count(6)", IndexOutOfBoundsException.class, () -> x.count(6));
        same("others that throw", x);
    }

    private static void askedFirst() {
        due.sentence("Terms", "THE MEMORY has, for each rule and place, what the rule gave there, or nothing.");
        ChoiceParser x = Use.feed(Use.parser("A=a", "B=Ab/Ac/A"), "aac");
        due.is("match of B at 0", x.match(1, 0), 1);
        due.is("A was worked out once and asked for twice more", Use.counts(x), "2 0 3 2 2 2");
        due.is("memory", memories(x), "1 -2 -2 -2, 1 -2 -2 -2");
        due.is("match of B at 1", x.match(1, 1), 3);
        due.is("memory", memories(x), "1 2 -2 -2, 1 3 -2 -2");
        due.is("match of B at 2", x.match(1, 2), -1);
        due.is("that it fails is remembered too", Use.counts(x), "2 0 3 0 6 5");
        due.is("match of B at 3", x.match(1, 3), -1);
        due.is("memory", memories(x), "1 2 -1 -1, 1 3 -1 -1");
        int begun = x.count(4);
        int had = x.count(5);
        for (int place = 0; place <= 3; place++) {
            due.is("match again", x.match(1, place), x.memory(1, place));
        }
        due.is("nothing more was begun", x.count(4), begun);
        due.is("each was remembered", x.count(5), had + 4);
        due.is("looking at it is not asking for it", x.memory(0, 0) + x.count(5), 1 + had + 4);
    }

    private static void whatItHas() {
        due.sentence("Promise 10", "What the memory has of a rule at a place: where it goes, -1 for failing, -2 for"
            + " nothing.");
        for (int rule = 0; rule < 6; rule++) {
            String a = String.valueOf((char) ('A' + rule));
            ChoiceParser x = Use.feed(Use.parser(a + "=a+/!."), "a".repeat(19) + "b");
            for (int place = 0; place <= 20; place++) {
                int want = place < 19 ? 19 : place == 19 ? -1 : 20;
                due.is("memory before", x.memory(rule, place), -2);
                due.is("match", x.match(rule, place), want);
                due.is("memory behind", x.memory(rule, place), want);
            }
            due.is("of another rule", x.memory(5 - rule, 0), -2);
        }
        ChoiceParser none = Use.feed(Use.parser("A=&a"), "a");
        due.is("match that stays", none.match(0, 0), 0);
        due.is("memory of it", none.memory(0, 0), 0);
        due.is("memory of a rule without an expression", none.memory(3, 0), -2);
    }

    private static void noRuleOrPlace() {
        due.sentence("Promise 10", "IndexOutOfBoundsException: there is no such rule or place.");
        for (int letters : new int[] {0, 1, 19, 20}) {
            ChoiceParser x = Use.feed(Use.parser("A=a", "F=a"), A20.substring(0, letters));
            for (int rule : new int[] {0, 1, 4, 5}) {
                due.is("memory(" + rule + ", 0)", x.memory(rule, 0), -2);
                due.is("memory(" + rule + ", " + letters + ")", x.memory(rule, letters), -2);
                for (int place : new int[] {Integer.MIN_VALUE, -1, letters + 1, 21, Integer.MAX_VALUE}) {
                    due.throwsA("memory(" + rule + ", " + place + ")", IndexOutOfBoundsException.class,
                        () -> x.memory(rule, place));
                }
            }
            for (int rule : new int[] {Integer.MIN_VALUE, -1, 6, Integer.MAX_VALUE}) {
                for (int place : new int[] {-1, 0, letters, letters + 1}) {
                    due.throwsA("memory(" + rule + ", " + place + ")", IndexOutOfBoundsException.class,
                        () -> x.memory(rule, place));
                }
            }
        }
    }

    private static void countsOfRules() {
        due.sentence("Promise 12", "0 how many rules have an expression");
        ChoiceParser x = new ChoiceParser();
        due.is("of a new one", x.count(0), 0);
        for (int rule = 0; rule < 6; rule++) {
            Use.rule(x, (char) ('A' + rule) + "=a");
            due.is("after rule " + rule, x.count(0), rule + 1);
        }
        Use.rule(x, "F=b");
        due.is("after another expression", x.count(0), 6);
        for (int rule = 0; rule < 6; rule++) {
            x.drop(rule);
            due.is("after drop(" + rule + ")", x.count(0), 5 - rule);
        }
        // Not those that only stand in one.
        Use.rule(x, "A=BC");
        due.is("with two missing", x.count(0), 1);
    }

    private static void countsOfCharacters() {
        due.sentence("Promise 12", "1 characters in the pad, 2 letters of the input");
        ChoiceParser x = new ChoiceParser();
        for (int n = 1; n <= 26; n++) {
            x.type('a');
            due.is("characters after " + n, x.count(1), Math.min(n, 24));
            due.is("letters beside them", x.count(2), 0);
        }
        x.rule();
        due.is("characters after rule()", x.count(1), 0);
        for (int n = 1; n <= 20; n++) {
            x.feed('a');
            due.is("letters after " + n, x.count(2), n);
            due.is("characters beside them", x.count(1), 0);
        }
        due.throwsA("one more", IllegalStateException.class, () -> x.feed('a'));
        due.is("letters after one more", x.count(2), 20);
        x.clear();
        due.is("letters after clear()", x.count(2), 0);
    }

    private static void countsOfNodes() {
        due.sentence("Promise 12", "3 nodes of the tree that are kept");
        // 1 of A, 3 of C with 18 of B each, and some of B beside them: the first 60 are kept.
        for (int more = 0; more <= 4; more++) {
            ChoiceParser x = Use.parser("A=CCC" + "B".repeat(more), "B=a?", "C=" + "B".repeat(18));
            due.is("before the match", x.count(3), 0);
            x.match(0, 0);
            due.is("with " + more + " more", x.count(3), Math.min(58 + more, 60));
            x.match(1, 0);
            due.is("of one", x.count(3), 1);
        }
    }

    private static void countsOfWork() {
        due.sentence("Promise 12", "4 how often working a rule out was begun since the beginning, 5 how often the memory was"
            + " asked and had something.");
        ChoiceParser x = Use.feed(Use.parser("A=B*", "B=a"), A20);
        due.is("before", Use.counts(x), "2 0 20 0 0 0");
        x.match(0, 0);
        due.is("A once, B at all 21 places", Use.counts(x), "2 0 20 21 22 0");
        x.match(0, 0);
        due.is("A from the memory", Use.counts(x), "2 0 20 21 22 1");
        x.match(0, 10);
        due.is("A at 10, and 11 times B", Use.counts(x), "2 0 20 11 23 12");
        // Since the beginning: nothing sets them back.
        x.clear();
        Use.rule(x, "A=b");
        x.drop(1);
        due.is("after changes", Use.counts(x), "1 0 0 11 23 12");
        x.match(0, 0);
        due.is("one more", Use.counts(x), "1 0 0 0 24 12");
        due.throwsA("no such place", IllegalArgumentException.class, () -> x.match(0, 1));
        due.is("after a call that was refused", Use.counts(x), "1 0 0 0 24 12");
        // One that is refused for its depth is not begun; those above it were.
        ChoiceParser y = Use.feed(Use.parser("A=!BaA", "B=b"), A20);
        due.throwsA("too deep", IllegalStateException.class, () -> y.match(0, 0));
        due.is("begun and not ended", Use.counts(y), "2 0 20 0 25 0");
        due.throwsA("too deep again", IllegalStateException.class, () -> y.match(0, 0));
        due.is("begun again, B remembered", Use.counts(y), "2 0 20 0 38 12");
    }

    private static void noneOfTheCounts() {
        due.sentence("Promise 12", "IndexOutOfBoundsException: none of these.");
        ChoiceParser x = new ChoiceParser();
        for (int none : new int[] {Integer.MIN_VALUE, -2, -1, 6, 7, Integer.MAX_VALUE}) {
            due.throwsA("count(" + none + ")", IndexOutOfBoundsException.class, () -> x.count(none));
        }
        for (int what = 0; what < 6; what++) {
            due.is("count(" + what + ")", x.count(what), 0);
        }
    }

    private static void partOfTheMemory() {
        due.sentence("Promise 13", "The part of the memory that has something, as a float: how many of the rules with an"
            + " expression at all places there are, divided by how many that could be;");
        // The most there can be: 6 rules at 21 places.
        ChoiceParser x = Use.feed(Use.parser("A=a", "B=a", "C=b", "D=b", "E=c", "F=!a"), A20);
        int has = 0;
        for (int place = 20; place >= 0; place--) {
            for (int rule = 0; rule < 6; rule++) {
                due.is("full with " + has, x.full(), (float) has / 126f);
                x.match(rule, place);
                has++;
            }
        }
        due.is("full", x.full(), 1f);
        // The least: one rule at one place.
        ChoiceParser y = Use.parser("C=a");
        due.is("one rule, nothing", y.full(), 0f);
        y.match(2, 0);
        due.is("one rule, all", y.full(), 1f);
        y.feed('b');
        due.is("one rule at two places, nothing", y.full(), 0f);
        y.match(2, 1);
        due.is("one rule at two places, one", y.full(), 0.5f);
        y.feed('b');
        y.match(2, 1);
        due.is("one rule at three places, one", y.full(), 1f / 3f);
        Use.rule(y, "E=C");
        y.match(4, 2);
        due.is("two rules at three places, two", y.full(), 2f / 6f);
    }

    private static void fullWithoutRules() {
        due.sentence("Promise 13", "0f without any rule.");
        ChoiceParser x = new ChoiceParser();
        due.is("of a new one", x.full(), 0f);
        Use.feed(x, A20);
        due.is("with letters", x.full(), 0f);
        Use.rule(x, "A=");
        due.is("after a fault", x.full(), 0f);
        Use.rule(x, "F=a*");
        x.match(5, 0);
        due.is("with one rule", x.full(), 1f / 21f);
        x.drop(5);
        due.is("after drop", x.full(), 0f);
        x.clear();
        due.is("after clear()", x.full(), 0f);
    }
}
