/** Promise 11: node, and the tree. Their edges are in TreeEdgesTest. */
public final class TreeTest {
    private static final Due due = new Due();

    public static void main(String[] args) {
        shapes();
        whatNode();
        treeOfMemory();
        sixtyKept();
        manyBelowOne();
        due.end();
    }

    private static void shape(String input, String want, String... texts) {
        ChoiceParser x = Use.feed(Use.parser(texts), input);
        x.match(0, 0);
        due.is("tree of " + String.join(" ", texts) + " on " + input, Use.tree(x), want);
    }

    private static void shapes() {
        shape("a", "0A0-1", "A=a");
        shape("b", "", "A=a");
        shape("ab", "0A0-2 1B0-1 1C1-2", "A=BC", "B=a", "C=b");
        shape("ab", "0A0-2 1C0-2 2B0-1", "A=BBc/C", "B=a", "C=Bb");
        shape("aab", "0A0-2 1B0-1 1B1-2", "A=B*", "B=a");
        shape("abac", "0A0-2 1B0-1 1C1-2", "A=(BC)*", "B=a", "C=b");
        shape("aba", "0A0-2 1B0-1 1C1-2", "A=(BC)+", "B=a", "C=b");
        shape("ac", "0A0-0", "A=(BC)?", "B=a", "C=b");
        shape("ab", "0A0-1 1B0-1", "A=&(BC)B", "B=a", "C=b");
        shape("ac", "0A0-1 1B0-1", "A=!(BC)B", "B=a", "C=b");
        shape("a", "0A0-1 1B0-1 2C0-0 1C1-1", "A=BC", "B=Ca", "C=b?");
        shape("aab", "0A0-3 1A1-3 2A2-3", "A=aA/b");
        shape("ad", "0A0-2 1B0-1", "A=(BC/B(BC/.))", "B=a", "C=b");
        shape("ad", "0A0-2 1B0-1 1D1-2", "A=B(C/B?bC/D)", "B=a", "C=b", "D=d");
    }

    private static void whatNode() {
        ChoiceParser x = Use.feed(Use.parser("A=aC", "C=b"), "cab");
        x.match(0, 1);
        int[][] want = {{0, 1, 3, 0}, {2, 2, 3, 1}};
        for (int i = 0; i < 2; i++) {
            for (int what = 0; what < 4; what++) {
                due.is("node(" + i + ", " + what + ")", x.node(i, what), want[i][what]);
            }
        }
        int[][] wrong = {{-1, 0}, {2, 0}, {0, -1}, {0, 4}, {60, 0}, {Integer.MAX_VALUE, 0}, {0, Integer.MIN_VALUE}};
        for (int[] w : wrong) {
            due.throwsA("node(" + w[0] + ", " + w[1] + ")", IndexOutOfBoundsException.class,
                    () -> x.node(w[0], w[1]));
        }
    }

    private static void treeOfMemory() {
        ChoiceParser x = Use.feed(Use.parser("A=aB", "B=bC", "C=c*"), "abcc");
        x.match(0, 0);
        String all = "0A0-4 1B1-4 2C2-4";
        due.is("tree when worked out", Use.tree(x), all);
        x.match(1, 1);
        due.is("tree of an inner one", Use.tree(x), "0B1-4 1C2-4");
        x.match(0, 0);
        due.is("tree when remembered", Use.tree(x), all);
        Use.rule(x, "D=d");
        x.clear();
        x.drop(0);
        due.is("tree after changes", Use.tree(x), all);
    }

    private static void sixtyKept() {
        // A has 22 of B below it, each of these 22 of C, and so on: 5,399,043 nodes in all.
        ChoiceParser x = new ChoiceParser();
        for (char c = 'A'; c < 'F'; c++) {
            Use.rule(x, c + "=" + String.valueOf((char) (c + 1)).repeat(22));
        }
        Use.rule(x, "F=a?");
        due.is("match of the many", x.match(0, 0), 0);
        due.is("kept of the many", x.count(3), 60);
        due.is("node(4, 3) of the many", x.node(4, 3), 4);
        due.is("node(26, 0) of the many", x.node(26, 0), 5);
        due.is("node(27, 0) of the many", x.node(27, 0), 4);
        due.is("node(59, 0) of the many", x.node(59, 0), 5);
        due.throwsA("node(60, 0) of the many", IndexOutOfBoundsException.class, () -> x.node(60, 0));
    }

    private static void manyBelowOne() {
        // Up to 300 of B are written down below A and then cut again: those of the row that fails.
        ChoiceParser x = Use.parser("A=(BBBBBBBBBBBBBBBa)*b/C", "B=c?", "C=aC?B");
        Use.feed(x, "aaaaaaaaaaaaaaaaaaa");
        for (int place = 19; place >= 0; place--) {
            x.match(0, place);
        }
        due.is("match of many below one", x.match(0, 0), 19);
        due.is("nodes after a failing row", x.count(3), 1 + 19 + 19);
        due.is("first below", x.node(1, 0), 2);
        x.feed('b');
        due.is("match of the row itself", x.match(0, 0), 20);
        due.is("nodes of the row", x.count(3), 60);
        for (int i = 1; i < 60; i++) {
            due.is("node " + i + " begins", x.node(i, 1), (i - 1) / 15);
            due.is("node " + i + " is below", x.node(i, 3), 1);
        }
    }
}
