/** Short ways to use a ChoiceParser in tests. */
final class Use {
    private Use() {
    }

    /** A new parser with rules from these texts, each of which must be one. */
    static ChoiceParser parser(String... texts) {
        ChoiceParser x = new ChoiceParser();
        for (String text : texts) {
            if (rule(x, text) != 0) {
                throw new AssertionError("no text: " + text);
            }
        }
        return x;
    }

    static void type(ChoiceParser x, String text) {
        for (char c : text.toCharArray()) {
            x.type(c);
        }
    }

    static int rule(ChoiceParser x, String text) {
        type(x, text);
        return x.rule();
    }

    static ChoiceParser feed(ChoiceParser x, String letters) {
        for (char c : letters.toCharArray()) {
            x.feed(c);
        }
        return x;
    }

    /** Where the rule of this text goes from the beginning of this input. */
    static int goes(String text, String input) {
        return feed(parser(text), input).match(text.charAt(0) - 'A', 0);
    }

    /** The nodes in their order, each as its depth, rule, begin and end: "0A0-3 1B0-1". */
    static String tree(ChoiceParser x) {
        StringBuilder told = new StringBuilder();
        int nodes = x.count(3);
        for (int i = 0; i < nodes; i++) {
            told.append(i == 0 ? "" : " ").append(x.node(i, 3)).append((char) ('A' + x.node(i, 0)));
            told.append(x.node(i, 1)).append('-').append(x.node(i, 2));
        }
        return told.toString();
    }

    /** What the memory has of a rule at all places: "3 -1 -2". */
    static String memory(ChoiceParser x, int rule) {
        StringBuilder told = new StringBuilder();
        int letters = x.count(2);
        for (int place = 0; place <= letters; place++) {
            told.append(place == 0 ? "" : " ").append(x.memory(rule, place));
        }
        return told.toString();
    }

    static String counts(ChoiceParser x) {
        StringBuilder told = new StringBuilder();
        for (int what = 0; what < 6; what++) {
            told.append(what == 0 ? "" : " ").append(x.count(what));
        }
        return told.toString();
    }

    /** What can be asked of the object without a change; but not its tree. */
    static String state(ChoiceParser x) {
        StringBuilder told = new StringBuilder();
        for (int what : new int[] {0, 1, 2, 4, 5}) {
            told.append(x.count(what)).append(' ');
        }
        told.append("check ").append(x.check()).append(" full ").append(x.full());
        for (int rule = 0; rule < 6; rule++) {
            told.append(", ").append((char) ('A' + rule)).append(' ').append(memory(x, rule));
            told.append(" outcomes ").append(outcomes(x, rule));
        }
        return told.toString();
    }

    private static String outcomes(ChoiceParser x, int rule) {
        try {
            return String.valueOf(x.outcomes(rule));
        } catch (RuntimeException e) {
            return e.getClass().getSimpleName();
        }
    }
}
