import java.util.ArrayList;
import java.util.HashMap;
import java.util.List;
import java.util.Map;
import java.util.TreeMap;

/**
 * The document put into code a second time, as near to its words as can be and without regard to
 * time or room, to compare the class with. Exceptions are answers here: their simple names.
 */
final class PlainModel {
    private static final String LETTERS = "abcdefghi";
    private static final String RULES = "ABCDEF";

    /** Kinds: "letter", "rule", "row", "choice", or a sign as itself. */
    private record Exp(String kind, String chars, List<Exp> in) {
    }

    private static final class TreeNode {
        int rule;
        int begin;
        int end;
        final List<TreeNode> below = new ArrayList<>();
    }

    private static final class TooDeep extends RuntimeException {
        private static final long serialVersionUID = 1;
    }

    String pad = "";
    String input = "";
    private final Map<Integer, Exp> rules = new TreeMap<>();
    /** What a rule gave: a tree, or null inside for failing. */
    private final Map<String, List<TreeNode>> memory = new HashMap<>();
    private final List<int[]> kept = new ArrayList<>();
    private int begun;
    private int had;
    int treeSize;

    // ---- texts: the fault is found by a machine of states, the expression by splitting ----

    static int fault(String text) {
        String state = "rule";
        int open = 0;
        char low = 0;
        for (int i = 0; i < text.length(); i++) {
            char c = text.charAt(i);
            boolean letter = LETTERS.indexOf(c) >= 0;
            boolean unit = letter || c == '.' || RULES.indexOf(c) >= 0;
            boolean part = state.equals("part") || state.equals("behind") || state.equals("closed");
            String next = "";
            if (state.equals("rule") && RULES.indexOf(c) >= 0) {
                next = "=";
            } else if (state.equals("=") && c == '=') {
                next = "part";
            } else if (part && (c == '&' || c == '!')) {
                next = "unit";
            } else if ((part || state.equals("unit")) && unit) {
                next = "behind";
            } else if ((part || state.equals("unit")) && c == '[') {
                next = "low";
            } else if ((part || state.equals("unit")) && c == '(' && open < 4) {
                next = "part";
                open++;
            } else if (state.equals("behind") && "*+?".indexOf(c) >= 0) {
                next = "closed";
            } else if ((state.equals("behind") || state.equals("closed")) && c == '/') {
                next = "part";
            } else if ((state.equals("behind") || state.equals("closed")) && c == ')' && open > 0) {
                next = "behind";
                open--;
            } else if (state.equals("low") && letter) {
                next = "-";
                low = c;
            } else if (state.equals("-") && c == '-') {
                next = "high";
            } else if (state.equals("high") && letter && c >= low) {
                next = "]";
            } else if (state.equals("]") && c == ']') {
                next = "behind";
            }
            if (next.isEmpty()) {
                return i;
            }
            state = next;
        }
        boolean whole = open == 0 && (state.equals("behind") || state.equals("closed"));
        return whole ? -1 : text.length();
    }

    private static List<String> splitOutside(String text, boolean atSlash) {
        List<String> pieces = new ArrayList<>();
        StringBuilder piece = new StringBuilder();
        int open = 0;
        for (int i = 0; i < text.length(); i++) {
            char c = text.charAt(i);
            if (atSlash && open == 0 && c == '/') {
                pieces.add(piece.toString());
                piece.setLength(0);
                continue;
            }
            open += c == '(' || c == '[' ? 1 : c == ')' || c == ']' ? -1 : 0;
            piece.append(c);
            boolean more = i + 1 < text.length() && "*+?".indexOf(text.charAt(i + 1)) >= 0;
            if (!atSlash && open == 0 && c != '&' && c != '!' && !more) {
                pieces.add(piece.toString());
                piece.setLength(0);
            }
        }
        if (piece.length() > 0) {
            pieces.add(piece.toString());
        }
        return pieces;
    }

    private static Exp choice(String text) {
        List<Exp> rows = new ArrayList<>();
        for (String row : splitOutside(text, true)) {
            List<Exp> parts = new ArrayList<>();
            for (String part : splitOutside(row, false)) {
                parts.add(part(part));
            }
            rows.add(new Exp("row", "", parts));
        }
        return new Exp("choice", "", rows);
    }

    private static Exp part(String text) {
        char first = text.charAt(0);
        char last = text.charAt(text.length() - 1);
        if (first == '&' || first == '!') {
            return new Exp(String.valueOf(first), "", List.of(part(text.substring(1))));
        }
        if ("*+?".indexOf(last) >= 0) {
            return new Exp(String.valueOf(last), "", List.of(part(text.substring(0, text.length() - 1))));
        }
        if (first == '(') {
            return choice(text.substring(1, text.length() - 1));
        }
        if (RULES.indexOf(first) >= 0) {
            return new Exp("rule", text, List.of());
        }
        if (first == '.') {
            return new Exp("letter", LETTERS, List.of());
        }
        if (first == '[') {
            return new Exp("letter", LETTERS.substring(text.charAt(1) - 'a', text.charAt(3) - 'a' + 1), List.of());
        }
        return new Exp("letter", text, List.of());
    }

    // ---- outcomes and good ----

    private int outcomesOf(Exp e, Map<Integer, Integer> known) {
        int p = e.in.isEmpty() ? 0 : outcomesOf(e.in.get(0), known);
        boolean s = (p & 1) != 0;
        boolean o = (p & 2) != 0;
        boolean f = (p & 4) != 0;
        switch (e.kind) {
            case "letter":
                return 6;
            case "rule":
                return known.getOrDefault(RULES.indexOf(e.chars), 0);
            case "*":
                return outcomes(f, o, false);
            case "+":
                return outcomes(s && f, o, f);
            case "?":
                return outcomes(s || f, o, false);
            case "&":
                return outcomes(s || o, false, f);
            case "!":
                return outcomes(f, false, s || o);
            default:
                break;
        }
        if (e.in.size() == 1) {
            return p;
        }
        int r = outcomesOf(rest(e), known);
        boolean rs = (r & 1) != 0;
        boolean ro = (r & 2) != 0;
        boolean rf = (r & 4) != 0;
        if (e.kind.equals("row")) {
            return outcomes(s && rs, o && (ro || rs) || s && ro, f || (s || o) && rf);
        }
        return outcomes(s || f && rs, o || f && ro, f && rf);
    }

    private static Exp rest(Exp e) {
        return new Exp(e.kind, "", e.in.subList(1, e.in.size()));
    }

    private static int outcomes(boolean still, boolean on, boolean failing) {
        return (still ? 1 : 0) + (on ? 2 : 0) + (failing ? 4 : 0);
    }

    private Map<Integer, Integer> allOutcomes() {
        Map<Integer, Integer> known = new HashMap<>();
        for (int pass = 0; pass < 100; pass++) {
            Map<Integer, Integer> next = new HashMap<>();
            rules.forEach((rule, e) -> next.put(rule, outcomesOf(e, known)));
            known.putAll(next);
        }
        return known;
    }

    private boolean good(Exp e, Map<Integer, Integer> known, Map<Integer, Boolean> goods) {
        switch (e.kind) {
            case "letter":
                return true;
            case "rule":
                return goods.getOrDefault(RULES.indexOf(e.chars), false);
            case "choice":
                return e.in.stream().allMatch(row -> good(row, known, goods));
            case "row":
                boolean first = good(e.in.get(0), known, goods);
                boolean still = (outcomesOf(e.in.get(0), known) & 1) != 0;
                return first && (e.in.size() == 1 || !still || good(rest(e), known, goods));
            case "*":
            case "+":
                return good(e.in.get(0), known, goods) && (outcomesOf(e.in.get(0), known) & 1) == 0;
            default:
                return good(e.in.get(0), known, goods);
        }
    }

    private boolean allGood(Exp e, Map<Integer, Integer> known, Map<Integer, Boolean> goods) {
        if (!good(e, known, goods)) {
            return false;
        }
        if (e.kind.equals("row") && e.in.size() > 1 && !allGood(rest(e), known, goods)) {
            return false;
        }
        return e.in.stream().allMatch(in -> allGood(in, known, goods));
    }

    private static boolean stands(int rule, Exp e) {
        return e.kind.equals("rule") && RULES.indexOf(e.chars) == rule
                || e.in.stream().anyMatch(in -> stands(rule, in));
    }

    private int missing() {
        for (int rule = 0; rule < 6; rule++) {
            int r = rule;
            if (!rules.containsKey(rule) && rules.values().stream().anyMatch(e -> stands(r, e))) {
                return rule;
            }
        }
        return -1;
    }

    // ---- matching: the answer is where it goes, or -1; the trees that belong to it go to found ----

    private int go(Exp e, int place, int depth, List<TreeNode> found) {
        List<TreeNode> mine = new ArrayList<>();
        int to = goKind(e, place, depth, mine);
        if (to >= 0) {
            found.addAll(mine);
        }
        return to;
    }

    private int goKind(Exp e, int place, int depth, List<TreeNode> found) {
        int inner = e.in.size() > 1 ? depth + 1 : depth;
        switch (e.kind) {
            case "letter":
                return place < input.length() && e.chars.indexOf(input.charAt(place)) >= 0 ? place + 1 : -1;
            case "rule":
                TreeNode tree = matchRule(RULES.indexOf(e.chars), place, depth + 2);
                if (tree == null) {
                    return -1;
                }
                found.add(tree);
                return tree.end;
            case "row":
                int at = place;
                for (Exp part : e.in) {
                    at = go(part, at, inner, found);
                    if (at < 0) {
                        return -1;
                    }
                }
                return at;
            case "choice":
                for (Exp row : e.in) {
                    int to = go(row, place, inner, found);
                    if (to >= 0) {
                        return to;
                    }
                }
                return -1;
            case "&":
                return go(e.in.get(0), place, depth + 1, new ArrayList<>()) >= 0 ? place : -1;
            case "!":
                return go(e.in.get(0), place, depth + 1, new ArrayList<>()) >= 0 ? -1 : place;
            case "?":
                int once = go(e.in.get(0), place, depth + 1, found);
                return once >= 0 ? once : place;
            default:
                int last = e.kind.equals("+") ? -1 : place;
                int next = go(e.in.get(0), place, depth + 1, found);
                while (next >= 0) {
                    last = next;
                    next = go(e.in.get(0), last, depth + 1, found);
                }
                return last;
        }
    }

    private TreeNode matchRule(int rule, int place, int depth) {
        String key = rule + " " + place;
        if (memory.containsKey(key)) {
            had++;
            List<TreeNode> gave = memory.get(key);
            return gave.isEmpty() ? null : gave.get(0);
        }
        if (depth > 40) {
            throw new TooDeep();
        }
        begun++;
        TreeNode tree = new TreeNode();
        tree.rule = rule;
        tree.begin = place;
        tree.end = go(rules.get(rule), place, depth, tree.below);
        memory.put(key, tree.end < 0 ? List.of() : List.of(tree));
        return tree.end < 0 ? null : tree;
    }

    private void keep(TreeNode tree, int above) {
        // Beyond some thousands it is no longer counted; only the first 60 are kept anyway.
        if (treeSize++ > 5000) {
            return;
        }
        if (kept.size() < 60) {
            kept.add(new int[] {tree.rule, tree.begin, tree.end, above});
        }
        for (TreeNode below : tree.below) {
            if (treeSize <= 5000) {
                keep(below, above + 1);
            }
        }
    }

    // ---- the face, each answer as a text ----

    String type(char c) {
        if ((LETTERS + RULES + "=/&!*+?.[-]()").indexOf(c) < 0 || pad.length() == 24) {
            return "false";
        }
        pad += c;
        return "true";
    }

    String rule() {
        String text = pad;
        pad = "";
        int fault = fault(text);
        if (fault >= 0) {
            return String.valueOf(1 + fault);
        }
        rules.put(text.charAt(0) - 'A', choice(text.substring(2)));
        memory.clear();
        return "0";
    }

    String drop(int rule) {
        if (rule < 0 || rule > 5) {
            return "NoSuchElementException";
        }
        boolean was = rules.remove(rule) != null;
        if (was) {
            memory.clear();
        }
        return String.valueOf(was);
    }

    String feed(char c) {
        if (LETTERS.indexOf(c) < 0) {
            return "IllegalArgumentException";
        }
        if (input.length() == 20) {
            return "IllegalStateException";
        }
        input += c;
        memory.clear();
        return String.valueOf(input.length());
    }

    String clear() {
        int were = input.length();
        input = "";
        if (were > 0) {
            memory.clear();
        }
        return String.valueOf(were);
    }

    String outcomes(int rule) {
        if (!rules.containsKey(rule)) {
            return "NoSuchElementException";
        }
        return missing() >= 0 ? "IllegalStateException" : String.valueOf(allOutcomes().get(rule));
    }

    String check() {
        if (rules.isEmpty()) {
            return "1";
        }
        if (missing() >= 0) {
            return String.valueOf(2 + 10 * missing());
        }
        Map<Integer, Integer> known = allOutcomes();
        Map<Integer, Boolean> goods = new HashMap<>();
        for (int pass = 0; pass < 10; pass++) {
            rules.forEach((rule, e) -> goods.put(rule, good(e, known, goods)));
        }
        for (int rule : rules.keySet()) {
            if (!allGood(rules.get(rule), known, goods)) {
                return String.valueOf(3 + 10 * rule);
            }
        }
        return "0";
    }

    String match(int rule, int place) {
        kept.clear();
        treeSize = 0;
        if (!rules.containsKey(rule)) {
            return "NoSuchElementException";
        }
        if (place < 0 || place > input.length()) {
            return "IllegalArgumentException";
        }
        if (!check().equals("0")) {
            return "IllegalStateException";
        }
        try {
            TreeNode tree = matchRule(rule, place, 1);
            if (tree == null) {
                return "-1";
            }
            keep(tree, 0);
            return String.valueOf(tree.end);
        } catch (TooDeep e) {
            return "IllegalStateException";
        }
    }

    String memory(int rule, int place) {
        if (rule < 0 || rule > 5 || place < 0 || place > input.length()) {
            return "IndexOutOfBoundsException";
        }
        List<TreeNode> gave = memory.get(rule + " " + place);
        return gave == null ? "-2" : gave.isEmpty() ? "-1" : String.valueOf(gave.get(0).end);
    }

    String node(int i, int what) {
        boolean is = i >= 0 && i < kept.size() && what >= 0 && what < 4;
        return is ? String.valueOf(kept.get(i)[what]) : "IndexOutOfBoundsException";
    }

    String count(int what) {
        int[] counts = {rules.size(), pad.length(), input.length(), kept.size(), begun, had};
        return what >= 0 && what < 6 ? String.valueOf(counts[what]) : "IndexOutOfBoundsException";
    }

    String full() {
        if (rules.isEmpty()) {
            return "0.0";
        }
        return String.valueOf((float) memory.size() / (rules.size() * (input.length() + 1)));
    }
}
