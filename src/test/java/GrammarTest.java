import java.util.NoSuchElementException;

/** Promises 4, 7 and 8: drop, outcomes, check. Their edges are in GrammarEdgesTest. */
public final class GrammarTest {
    private static final Due due = new Due();

    public static void main(String[] args) {
        drop();
        outcomesOfOne();
        outcomesOfSeveral();
        outcomesThrows();
        check();
        checkAllParts();
        due.end();
    }

    private static void drop() {
        ChoiceParser x = Use.feed(Use.parser("A=a", "F=A"), "a");
        x.match(5, 0);
        due.is("drop(1)", x.drop(1), false);
        due.is("memory after drop that is false", Use.memory(x, 5), "1 -2");
        due.throwsA("drop(-1)", NoSuchElementException.class, () -> x.drop(-1) ? 1 : 0);
        due.throwsA("drop(6)", NoSuchElementException.class, () -> x.drop(6) ? 1 : 0);
        due.throwsA("drop(MIN)", NoSuchElementException.class, () -> x.drop(Integer.MIN_VALUE) ? 1 : 0);
        due.is("memory after drop that throws", Use.memory(x, 5), "1 -2");
        due.is("drop(5)", x.drop(5), true);
        due.is("memory after drop", Use.memory(x, 0) + " " + Use.memory(x, 5), "-2 -2 -2 -2");
        due.is("rules after drop", x.count(0), 1);
        due.is("tree after drop", Use.tree(x), "0F0-1 1A0-1");
        due.is("drop(5) again", x.drop(5), false);
        due.is("drop(0)", x.drop(0), true);
        due.is("check() without rules", x.check(), 1);
    }

    private static void outcomes(String text, int want) {
        due.is("outcomes of " + text, Use.parser(text).outcomes(text.charAt(0) - 'A'), want);
    }

    private static void outcomesOfOne() {
        outcomes("A=a", 6);
        outcomes("A=.", 6);
        outcomes("A=[b-c]", 6);
        outcomes("A=a*", 3);
        outcomes("A=a+", 6);
        outcomes("A=a?", 3);
        outcomes("A=&a", 5);
        outcomes("A=!a", 5);
        outcomes("A=(a*)*", 2);
        outcomes("A=(a*)+", 2);
        outcomes("A=(a*)?", 3);
        outcomes("A=&(a*)", 1);
        outcomes("A=!(a*)", 4);
        outcomes("A=(&a)+", 5);
        outcomes("A=(&a)*", 1);
        outcomes("A=(!(a*))*", 1);
        outcomes("A=(!(a*))+", 4);
        outcomes("A=(&a/b)+", 7);
        outcomes("A=ab", 6);
        outcomes("A=a*b*", 3);
        outcomes("A=a*b", 6);
        outcomes("A=ab*", 6);
        outcomes("A=&ab*", 7);
        outcomes("A=a*!(b*)", 4);
        outcomes("A=!(a*)b", 4);
        outcomes("A=a/b*", 3);
        outcomes("A=a*/b", 3);
        outcomes("A=&(a*)/b", 1);
        outcomes("A=!(a*)/b/&c", 7);
        outcomes("A=&a/b", 7);
        outcomes("A=A", 0);
        outcomes("A=Aa", 0);
        outcomes("A=aA", 4);
        outcomes("A=aA/b", 6);
        outcomes("A=A?", 0);
        outcomes("A=!A", 0);
        outcomes("A=a?A/b", 0);
        outcomes("A=aA?", 6);
    }

    private static void outcomesOfSeveral() {
        ChoiceParser x = Use.parser("F=a?", "E=F", "D=E", "C=D", "B=C", "A=B");
        for (int rule = 0; rule < 6; rule++) {
            due.is("outcomes along a chain, " + rule, x.outcomes(rule), 3);
        }
        Use.rule(x, "F=&A/b");
        for (int rule = 0; rule < 6; rule++) {
            due.is("outcomes round a ring, " + rule, x.outcomes(rule), 0);
        }
        Use.rule(x, "F=b/&A");
        due.is("outcomes of b/&A", x.outcomes(0), 3);
        Use.rule(x, "F=a");
        due.is("outcomes after another expression", x.outcomes(0), 6);
    }

    private static void outcomesThrows() {
        ChoiceParser x = Use.parser("A=a", "B=C");
        due.throwsA("outcomes(-1)", NoSuchElementException.class, () -> x.outcomes(-1));
        due.throwsA("outcomes(6)", NoSuchElementException.class, () -> x.outcomes(6));
        due.throwsA("outcomes without expression", NoSuchElementException.class, () -> x.outcomes(2));
        due.throwsA("outcomes, one missing", IllegalStateException.class, () -> x.outcomes(1));
        due.throwsA("outcomes, one missing elsewhere", IllegalStateException.class, () -> x.outcomes(0));
        x.drop(1);
        due.is("outcomes, none missing", x.outcomes(0), 6);
    }

    private static void check(int want, String... texts) {
        due.is("check() of " + String.join(" ", texts), Use.parser(texts).check(), want);
    }

    private static void check() {
        check(1);
        check(0, "A=a");
        check(0, "F=a/b*");
        check(12, "A=B");
        check(2, "B=A");
        check(22, "A=FC", "B=aD");
        check(12, "A=A", "C=B");
        check(3, "A=A");
        check(0, "A=aA");
        check(0, "A=aA/b");
        check(3, "A=a?A");
        check(3, "A=!aA");
        check(3, "A=b/A");
        check(3, "A=&A");
        check(3, "A=(a?)*");
        check(3, "A=(a?)+");
        check(0, "A=(a?)?");
        check(0, "A=&(a?)");
        check(0, "A=(a?b)*");
        check(3, "A=(&a/b)*");
        check(3, "A=B", "B=A");
        check(0, "A=aB", "B=A");
        check(13, "A=a", "B=B");
        check(53, "E=a", "F=F/E");
        check(0, "A=B", "B=C", "C=D", "D=E", "E=F", "F=aA");
        check(3, "A=B", "B=C", "C=D", "D=E", "E=F", "F=a*A");
        check(0, "F=E", "E=D", "D=C", "C=B", "B=A", "A=aF");
    }

    private static void checkAllParts() {
        check(3, "A=a(b?)*");
        check(3, "A=a(b?)*c");
        check(3, "A=ab(cd(e*)+f)");
        check(3, "A=a/b/c(d?)*");
        check(3, "A=aB", "B=B");
        check(3, "A=a(!(b(c*)*))");
        check(13, "A=aA", "B=aC", "C=C");
        check(23, "A=a", "B=aA", "C=a(C/b)B?C", "D=d*", "C=D*");
    }
}
