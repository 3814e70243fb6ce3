/** Short ways to use a ChoiceParser in tests. */
final class Use {
    private Use() {
    }

    /** A new parser with rules from these texts, each of which must be one. */
    static ChoiceParser parser(String... texts) {
        ChoiceParser x = new ChoiceParser();
        for (String text : texts) {
            if (rule(x, text) != 0) {
                throw new AssertionError("no text: " + text);
            }
        }
        return x;
    }

    static void type(ChoiceParser x, String text) {
        for (char c : text.toCharArray()) {
            x.type(c);
        }
    }

    static int rule(ChoiceParser x, String text) {
        type(x, text);
        return x.rule();
    }

    static ChoiceParser feed(ChoiceParser x, String letters) {
        for (char c : letters.toCharArray()) {
            x.feed(c);
        }
        return x;
    }

    /** The nodes in their order, each as its depth, rule, begin and end: "0A0-3 1B0-1". */
    static String tree(ChoiceParser x) {
        StringBuilder told = new StringBuilder();
        for (int i = 0; i < x.count(3); i++) {
            told.append(i == 0 ? "" : " ").append(x.node(i, 3)).append((char) ('A' + x.node(i, 0)));
            told.append(x.node(i, 1)).append('-').append(x.node(i, 2));
        }
        return told.toString();
    }

    /** What the memory has of a rule at all places: "3 -1 -2". */
    static String memory(ChoiceParser x, int rule) {
        StringBuilder told = new StringBuilder();
        for (int place = 0; place <= x.count(2); place++) {
            told.append(place == 0 ? "" : " ").append(x.memory(rule, place));
        }
        return told.toString();
    }

    static String counts(ChoiceParser x) {
        StringBuilder told = new StringBuilder();
        for (int what = 0; what < 6; what++) {
            told.append(what == 0 ? "" : " ").append(x.count(what));
        }
        return told.toString();
    }
}
