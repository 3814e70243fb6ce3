/** The edges of the tree and of node(): a test for each sentence that names one. */
public final class TreeEdgesTest {
    private static final Due due = new Due();
    private static final int[] FAR = {Integer.MIN_VALUE, -2, -1};

    public static void main(String[] args) {
        ruleItself();
        rulesBelowIt();
        notInsideAndOrNot();
        notWhatFailed();
        ownLikewise();
        orderOfNodes();
        whatOfNodes();
        noSuchNode();
        noSuchWhat();
        first60();
        first60Deep();
        first60Beside();
        manyBesideEachOther();
        lastOfAll();
        workedOutAnew();
        due.end();
    }

    private static void shape(String input, String want, String... texts) {
        ChoiceParser x = Use.feed(Use.parser(texts), input);
        x.match(0, 0);
        due.is("tree of " + String.join(" ", texts) + " on " + input, Use.tree(x), want);
        x.match(0, 0);
        due.is("tree from the memory", Use.tree(x), want);
    }

    private static void ruleItself() {
        due.sentence("Terms", "THE TREE of a match that did not fail: the rule itself, with the place where it begins and"
            + " where it goes to;");
        ChoiceParser x = Use.feed(Use.parser("F=a*"), "a".repeat(20));
        for (int place = 0; place <= 20; place++) {
            x.match(5, place);
            due.is("tree at " + place, Use.tree(x), "0F" + place + "-20");
        }
        shape("b", "0A0-0", "A=a?");
        shape("b", "", "A=a");
    }

    private static void rulesBelowIt() {
        due.sentence("Terms", "below it, in order, the rules that were matched for its expression without failing, and"
            + " belong to it");
        shape("abc", "0A0-3 1B0-1 1C1-2 1D2-3", "A=BCD", "B=a", "C=b", "D=c");
        shape("abc", "0A0-3 1D0-1 1C1-2 1B2-3", "A=DCB", "D=a", "C=b", "B=c");
        shape("b", "0A0-1 1C0-1", "A=B/C", "B=a", "C=b");
        shape("b", "0A0-1 1C0-1", "A=C/B", "B=b", "C=b");
        shape("b", "0A0-1 1C0-1", "A=B*C", "B=a", "C=b");
        shape("aab", "0A0-3 1B0-1 1B1-2 1C2-3", "A=B*C", "B=a", "C=b");
        shape("aab", "0A0-2 1B0-1 1B1-2", "A=B+", "B=a");
        shape("aab", "0A0-1 1B0-1", "A=B?", "B=a");
        shape("b", "0A0-0 1B0-0 1B0-0", "A=BB", "B=a?");
    }

    private static void notInsideAndOrNot() {
        due.sentence("Terms", "(not what is inside & or !,");
        shape("a", "0A0-0", "A=&B", "B=a");
        shape("b", "0A0-0", "A=!B", "B=a");
        shape("ab", "0A0-1 1B0-1", "A=&BB&C", "B=a", "C=b");
        shape("ab", "0A0-1 1B0-1", "A=!(BB)B!(CC)", "B=a", "C=b");
        shape("ab", "0A0-1 1B0-1", "A=&(BC)&(!(CB)B)B", "B=a", "C=b");
        // Below a rule that is itself inside one, its own rules belong to it all the same.
        ChoiceParser x = Use.feed(Use.parser("A=&BB", "B=C", "C=a"), "a");
        x.match(0, 0);
        due.is("tree of what was worked out inside &", Use.tree(x), "0A0-1 1B0-1 2C0-1");
    }

    private static void notWhatFailed() {
        due.sentence("Terms", "nor rows or repetitions that failed in the end)");
        shape("aa", "0A0-1 1B0-1", "A=BC/BBC/B", "B=a", "C=b");
        shape("aa", "0A0-1", "A=BC/BBC/a", "B=a", "C=b");
        shape("abaa", "0A0-2 1B0-1 1C1-2", "A=(BC)*", "B=a", "C=b");
        shape("abaa", "0A0-2 1B0-1 1C1-2", "A=(BC)+", "B=a", "C=b");
        shape("aa", "0A0-0", "A=(BC)?", "B=a", "C=b");
        shape("aa", "0A0-0", "A=(BC)*", "B=a", "C=b");
        shape("aa", "0A0-1 1B0-1", "A=(BC)+/B", "B=a", "C=b");
        shape("aaa", "0A0-3 1B0-1 1B1-2 1B2-3", "A=B(BC/B)(BC)?B", "B=a", "C=b");
        shape("aab", "0A0-2 1D0-1 1D1-2", "A=((BD/D)(DC/D))", "B=b", "C=c", "D=a");
        // A repetition that went, in a row that failed in the end.
        shape("aaa", "0A0-1 1B0-1", "A=B+C/B*C/B?C/B", "B=a", "C=b");
    }

    private static void ownLikewise() {
        due.sentence("Terms", "each with its own likewise.");
        shape("aab", "0A0-3 1B0-2 2C0-1 2C1-2 1D2-3 2E2-3 3F2-3", "A=BD", "B=CC", "C=a", "D=E", "E=F", "F=b");
        shape("aaa", "0A0-3 1A1-3 2A2-3 3A3-3", "A=aA/!.");
        ChoiceParser x = Use.feed(Use.parser("A=BB", "B=&CD/!CE", "C=a", "D=C", "E=."), "ab");
        x.match(0, 0);
        due.is("tree", Use.tree(x), "0A0-2 1B0-1 2D0-1 3C0-1 1B1-2 2E1-2");
    }

    private static void orderOfNodes() {
        due.sentence("Promise 11", "Node i of the tree, in the order: a node, then all below its first one, and so on");
        shape("", "0A0-0 1B0-0 2C0-0 3D0-0 3D0-0 2C0-0 3D0-0 3D0-0 1B0-0 2C0-0 3D0-0 3D0-0 2C0-0 3D0-0 3D0-0",
            "A=BB", "B=CC", "C=DD", "D=a?");
        shape("", "0A0-0 1D0-0 1B0-0 2D0-0 2C0-0 3D0-0 2D0-0 1D0-0", "A=DBD", "B=DCD", "C=D", "D=a?");
    }

    private static void whatOfNodes() {
        due.sentence("Promise 11", "its rule (what = 0), where it begins (1), where it goes to (2), how many nodes are above"
            + " it (3).");
        ChoiceParser x = Use.feed(Use.parser("A=aF", "F=bE", "E=c*"), "babccc");
        x.match(0, 1);
        int[][] want = {{0, 1, 6, 0}, {5, 2, 6, 1}, {4, 3, 6, 2}};
        for (int i = 0; i < 3; i++) {
            for (int what = 0; what < 4; what++) {
                due.is("node(" + i + ", " + what + ")", x.node(i, what), want[i][what]);
            }
        }
        // The tree stays that of the match, whatever changes behind it.
        String tree = Use.tree(x);
        x.feed('a');
        Use.rule(x, "D=d");
        x.drop(5);
        x.clear();
        due.is("tree after changes", Use.tree(x), tree);
    }

    private static void noNode(ChoiceParser x, int i, int what) {
        due.throwsA("node(" + i + ", " + what + ")", IndexOutOfBoundsException.class, () -> x.node(i, what));
    }

    private static void noSuchNode() {
        due.sentence("Promise 11", "IndexOutOfBoundsException: there is no such node or what.");
        ChoiceParser x = Use.feed(Use.parser("A=B", "B=a*"), "a");
        justNodes(x, 0);
        x.match(0, 0);
        justNodes(x, 2);
        x.match(1, 0);
        justNodes(x, 1);
        due.throwsA("match(2, 0)", java.util.NoSuchElementException.class, () -> x.match(2, 0));
        justNodes(x, 0);
    }

    private static void justNodes(ChoiceParser x, int nodes) {
        for (int what = 0; what < 4; what++) {
            for (int i : FAR) {
                noNode(x, i, what);
            }
            for (int i = 0; i < nodes; i++) {
                due.is("node(" + i + ", " + what + ")", x.node(i, what) >= 0, true);
            }
            noNode(x, nodes, what);
            noNode(x, nodes + 1, what);
            noNode(x, 59, what);
            noNode(x, 60, what);
            noNode(x, Integer.MAX_VALUE, what);
        }
    }

    private static void noSuchWhat() {
        due.sentence("Promise 11", "there is no such node or what.");
        ChoiceParser x = Use.feed(Use.parser("A=B", "B=a*"), "a");
        for (int size = 0; size <= 2; size++) {
            for (int i = -1; i <= size; i++) {
                for (int what : FAR) {
                    noNode(x, i, what);
                }
                noNode(x, i, 4);
                noNode(x, i, 5);
                noNode(x, i, Integer.MAX_VALUE);
            }
            x.match(size == 0 ? 1 : 0, 0);
            due.is("nodes", x.count(3), Math.min(size + 1, 2));
            due.is("node(0, 0)", x.node(0, 0), size == 0 ? 1 : 0);
            due.is("node(0, 3)", x.node(0, 3), 0);
        }
    }

    private static void first60() {
        due.sentence("Promise 11", "(The first 60 in this order are kept.)");
        // 1 of A, 3 of C with 18 of B each: 58; and behind them more of D.
        for (int more = 0; more <= 4; more++) {
            ChoiceParser x = Use.parser("A=CCC" + "D".repeat(more), "B=a?", "C=" + "B".repeat(18), "D=a?");
            x.match(0, 0);
            int kept = Math.min(58 + more, 60);
            due.is("kept with " + more + " more", x.count(3), kept);
            for (int i = 0; i < kept; i++) {
                int rule = i == 0 ? 0 : i >= 58 ? 3 : i % 19 == 1 ? 2 : 1;
                due.is("rule of node " + i, x.node(i, 0), rule);
                due.is("above node " + i, x.node(i, 3), rule == 0 ? 0 : rule == 1 ? 2 : 1);
            }
            for (int what = 0; what < 4; what++) {
                noNode(x, kept, what);
                noNode(x, 60, what);
            }
        }
    }

    private static void first60Deep() {
        due.sentence("Promise 11", "(The first 60 in this order are kept.)");
        // Six rules in a row at each place, one below the other: 6 nodes more with each letter.
        ChoiceParser x = Use.feed(Use.parser("A=B", "B=C", "C=D", "D=E", "E=F", "F=aA/!."), "a".repeat(20));
        for (int place = 20; place >= 0; place--) {
            due.is("match at " + place, x.match(0, place), 20);
            due.is("kept at " + place, x.count(3), Math.min(6 * (21 - place), 60));
        }
        for (int i = 0; i < 60; i++) {
            due.is("rule of node " + i, x.node(i, 0), i % 6);
            due.is("begin of node " + i, x.node(i, 1), i / 6);
            due.is("goal of node " + i, x.node(i, 2), 20);
            due.is("above node " + i, x.node(i, 3), i);
        }
        noNode(x, 60, 0);
        // One node below 60, and one above it.
        for (int rule = 5; rule > 0; rule--) {
            x.match(rule, 11);
            due.is("kept of rule " + rule, x.count(3), 60 - rule);
        }
        x.match(5, 10);
        due.is("kept of 61", x.count(3), 60);
    }

    private static void first60Beside() {
        due.sentence("Promise 11", "(The first 60 in this order are kept.)");
        // All below one: B four times a letter.
        for (int letters = 13; letters <= 16; letters++) {
            ChoiceParser x = Use.feed(Use.parser("A=(BBB.B)*", "B=b?"), "a".repeat(letters));
            due.is("match on " + letters, x.match(0, 0), letters);
            int nodes = 1 + 4 * letters;
            // The last time of the repetition failed at its letter, and what it had met is gone.
            due.is("kept on " + letters, x.count(3), Math.min(nodes, 60));
            int last = Math.min(nodes, 60) - 1;
            due.is("begin of the last", x.node(last, 1), last / 4);
            due.is("above the last", x.node(last, 3), 1);
            noNode(x, last + 1, 0);
        }
        // Sixty that failed in the end take nobody's room.
        ChoiceParser y = Use.feed(Use.parser("A=(BBBB.)*b/CC", "B=b?", "C=B.*"), "a".repeat(20));
        due.is("match", y.match(0, 0), 20);
        due.is("tree", Use.tree(y), "0A0-20 1C0-20 2B0-0 1C20-20 2B20-20");
    }

    private static void manyBesideEachOther() {
        due.sentence("Promise 11", "(The first 60 in this order are kept.)");
        // More than 60 below A at each place; none of them may push what another place has.
        ChoiceParser x = Use.feed(Use.parser("A=(BBB.B)*", "B=b?"), "a".repeat(20));
        for (int place : new int[] {1, 0, 2, 1, 0}) {
            due.is("match at " + place, x.match(0, place), 20);
            for (int i = 1; i < 60; i += 3) {
                due.is("begin of node " + i + " from " + place, x.node(i, 1), place + i / 4);
            }
        }
    }

    private static void lastOfAll() {
        due.sentence("Terms", "RULES are A .. F (0 .. 5)");
        // The last rule at the last place has what is below it, too.
        ChoiceParser x = Use.feed(Use.parser("F=EEE", "E=!."), "a".repeat(20));
        due.is("match", x.match(5, 20), 20);
        due.is("tree", Use.tree(x), "0F20-20 1E20-20 1E20-20 1E20-20");
    }

    private static void workedOutAnew() {
        due.sentence("Promise 9", "The tree is that of this match then");
        ChoiceParser x = Use.feed(Use.parser("A=B*", "B=a"), "a");
        due.is("match", x.match(0, 0), 1);
        due.is("tree", Use.tree(x), "0A0-1 1B0-1");
        x.feed('a');
        due.is("match of more", x.match(0, 0), 2);
        due.is("tree of more", Use.tree(x), "0A0-2 1B0-1 1B1-2");
        x.clear();
        due.is("match of nothing", x.match(0, 0), 0);
        due.is("tree of nothing", Use.tree(x), "0A0-0");
        // What was met before a depth above 40 ended it is not met twice.
        ChoiceParser y = Use.feed(Use.parser("A=BaA/B", "B=!b"), "a".repeat(10));
        due.throwsA("too deep", IllegalStateException.class, () -> y.match(0, 0));
        due.is("match further on", y.match(0, 8), 10);
        due.is("tree further on", Use.tree(y), "0A8-10 1B8-8 1A9-10 2B9-9 2A10-10 3B10-10");
        due.is("match", y.match(0, 0), 10);
        due.is("nodes", y.count(3), 22);
        due.is("the second node of A", y.node(2, 0), 0);
    }
}
