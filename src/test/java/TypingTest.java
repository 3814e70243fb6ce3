/** Promises 2 and 3: type, rule. Their edges are in TypingEdgesTest. */
public final class TypingTest {
    private static final Due due = new Due();

    public static void main(String[] args) {
        textsThatAre();
        faults();
        faultyTextChangesNoRule();
        due.end();
    }

    private static void textsThatAre() {
        String[] texts = {"A=a", "F=i", "A=.", "A=A", "A=[a-a]", "A=[a-i]", "A=a/b/c", "A=&a", "A=!a*",
            "A=&(a)+", "A=a?b*c+", "A=((((a))))", "A=(((([a-b]/.C?))))*", "A=(a)(b)", "A=((a)(b/(c)))"};
        for (String text : texts) {
            ChoiceParser x = new ChoiceParser();
            due.is("rule() of " + text, Use.rule(x, text), 0);
            due.is("rules after " + text, x.count(0), 1);
            due.is("pad after " + text, x.count(1), 0);
        }
    }

    private static void fault(String text, int fault) {
        ChoiceParser x = new ChoiceParser();
        due.is("rule() of " + text, Use.rule(x, text), 1 + fault);
        due.is("pad after " + text, x.count(1), 0);
        due.is("rules after " + text, x.count(0), 0);
    }

    private static void faults() {
        fault("", 0);
        fault("=", 0);
        fault("a=a", 0);
        fault("A", 1);
        fault("AA", 1);
        fault("A=", 2);
        fault("A==", 2);
        fault("A=/a", 2);
        fault("A=a/", 4);
        fault("A=a//a", 4);
        fault("A=a=", 3);
        fault("A=a-", 3);
        fault("A=a]", 3);
        fault("A=a)", 3);
        fault("A=()", 3);
        fault("A=(a))", 5);
        fault("A=(a/)", 5);
        fault("A=(a", 4);
        fault("A=((a)", 6);
        fault("A=*", 2);
        fault("A=a*+", 4);
        fault("A=&", 3);
        fault("A=&&a", 3);
        fault("A=&/a", 3);
        fault("A=[", 3);
        fault("A=[A", 3);
        fault("A=[b", 4);
        fault("A=[b]", 4);
        fault("A=[b-", 5);
        fault("A=[b-a]", 5);
        fault("A=[b-B", 5);
        fault("A=[b-b", 6);
        fault("A=[b-bb", 6);
        fault("A=(((((", 6);
        fault("A=((((a/b&(", 10);
        fault("A=((((aaaaaaaaaaaaaaaaaa", 24);
    }

    private static void faultyTextChangesNoRule() {
        ChoiceParser x = Use.feed(Use.parser("A=a", "B=Ab"), "ab");
        due.is("match B", x.match(1, 0), 2);
        due.is("rule() of A=b/", Use.rule(x, "A=b/"), 5);
        due.is("memory of A after a fault", Use.memory(x, 0), "1 -2 -2");
        due.is("memory of B after a fault", Use.memory(x, 1), "2 -2 -2");
        due.is("rules after a fault", x.count(0), 2);
        due.is("match B after a fault", x.match(1, 0), 2);
        due.is("rule() of A=.", Use.rule(x, "A=."), 0);
        due.is("memory of A after a rule", Use.memory(x, 0), "-2 -2 -2");
        due.is("rules after another expression", x.count(0), 2);
        due.is("tree after a rule", Use.tree(x), "0B0-2 1A0-1");
        due.is("match A at 1", x.match(0, 1), 2);
        Use.rule(x, "A=.");
        due.is("memory of A after the same expression", Use.memory(x, 0), "-2 -2 -2");
    }
}
