import java.util.Arrays;
import java.util.NoSuchElementException;

/**
 * Grammars whose choices take the first way that goes: read from text, checked for what would
 * never end, and matched against an input with a memory; and the tree of a match.
 */
public final class ChoiceParser {
    public static final int NONE = -1;

    private static final int RULES = 6;
    private static final int PAD_SIZE = 24;
    private static final int INPUT_SIZE = 20;
    private static final int PLACES = INPUT_SIZE + 1;
    private static final int DEEPEST_GROUP = 4;
    private static final int DEEPEST_RULE = 40;

    /** What the memory answers where it has nothing. */
    private static final int NOTHING = -2;
    /** The memory has a cell for each rule and place. */
    private static final int CELLS = RULES * PLACES;
    private static final int NO_CELL = -1;
    /** How many nodes of a tree are kept. */
    private static final int KEPT = 60;

    /** The kinds of expressions. A group is no kind: it is the expression in it. */
    private static final int NO_KIND = 0;
    private static final int RANGE = 1;
    private static final int RULE = 2;
    private static final int ROW = 3;
    private static final int CHOICE = 4;
    private static final int STAR = 5;
    private static final int PLUS = 6;
    private static final int MAYBE = 7;
    private static final int AND = 8;
    private static final int NOT = 9;

    /** The outcomes that an expression can have. */
    private static final int STILL = 1;
    private static final int ON = 2;
    private static final int FAILING = 4;

    /** What the check of a grammar answers, beside ten times a rule. */
    private static final int SOUND = 0;
    private static final int NO_RULES = 1;
    private static final int MISSING = 2;
    private static final int NOT_GOOD = 3;

    private static final char FIRST_LETTER = 'a';
    private static final char LAST_LETTER = 'i';
    private static final char FIRST_RULE = 'A';
    private static final char LAST_RULE = 'F';
    private static final String SIGNS = "=/&!*+?.[-]()";
    /** Stands for the character behind the last one; no text has it. */
    private static final char END = '\0';

    private final Characters pad;
    private final Characters input;
    private final TextReader reader;
    private final Grammar grammar;
    private final Memory memory;
    private final Matcher matcher;
    private final Tree tree;

    public ChoiceParser() {
        pad = new Characters(PAD_SIZE);
        input = new Characters(INPUT_SIZE);
        reader = new TextReader(pad);
        grammar = new Grammar();
        memory = new Memory();
        matcher = new Matcher(grammar, input, memory);
        tree = new Tree();
    }

    public boolean type(char c) {
        return standsInTexts(c) && pad.add(c);
    }

    public int rule() {
        Expression expression = reader.read();
        pad.removeAll();
        if (expression == null) {
            return 1 + reader.fault();
        }
        grammar.put(reader.ruleRead(), expression);
        memory.forget();
        return 0;
    }

    public boolean drop(int rule) throws NoSuchElementException {
        if (!isRule(rule)) {
            throw new NoSuchElementException("there is no such rule");
        }
        if (grammar.expressionOf(rule) == null) {
            return false;
        }
        grammar.put(rule, null);
        memory.forget();
        return true;
    }

    public int feed(char c) throws IllegalArgumentException, IllegalStateException {
        if (!isLetter(c)) {
            throw new IllegalArgumentException("it is no letter");
        }
        if (!input.add(c)) {
            throw new IllegalStateException("the input is full");
        }
        memory.forget();
        return input.size();
    }

    public int clear() {
        int letters = input.size();
        if (letters > 0) {
            input.removeAll();
            memory.forget();
        }
        return letters;
    }

    public int outcomes(int rule) throws NoSuchElementException, IllegalStateException {
        Expression expression = grammar.expressionOf(rule);
        if (expression == null) {
            throw new NoSuchElementException("there is no such rule, or it has no expression");
        }
        if (grammar.misses()) {
            throw new IllegalStateException("a rule that stands in one has no expression");
        }
        return expression.outcomesOfRoot();
    }

    public int check() {
        return grammar.verdict();
    }

    public int match(int rule, int place)
            throws NoSuchElementException, IllegalArgumentException, IllegalStateException {
        // The tree goes first, since it is empty after each of the exceptions, the matcher's too.
        tree.fell();
        if (grammar.expressionOf(rule) == null) {
            throw new NoSuchElementException("there is no such rule, or it has no expression");
        }
        if (!isPlace(place)) {
            throw new IllegalArgumentException("there is no such place");
        }
        if (grammar.verdict() != SOUND) {
            throw new IllegalStateException("the grammar is not sound");
        }
        int to = matcher.matchRule(rule, place, 1);
        if (to != NONE) {
            tree.grow(memory, Memory.cellOf(rule, place));
        }
        return to;
    }

    public int memory(int rule, int place) throws IndexOutOfBoundsException {
        if (!isRule(rule) || !isPlace(place)) {
            throw new IndexOutOfBoundsException("there is no such rule or place");
        }
        return memory.recall(Memory.cellOf(rule, place));
    }

    public int node(int i, int what) throws IndexOutOfBoundsException {
        if (!tree.has(i, what)) {
            throw new IndexOutOfBoundsException("there is no such node or what");
        }
        return tree.tell(i, what);
    }

    public int count(int what) throws IndexOutOfBoundsException {
        switch (what) {
            case 0:
                return grammar.size();
            case 1:
                return pad.size();
            case 2:
                return input.size();
            case 3:
                return tree.size();
            case 4:
                return matcher.begun();
            case 5:
                return matcher.remembered();
            default:
                throw new IndexOutOfBoundsException("none of the counts");
        }
    }

    public float full() {
        int could = grammar.size() * (input.size() + 1);
        if (could <= 0) {
            return 0f;
        }
        return (float) memory.size() / (float) could;
    }

    private boolean isPlace(int place) {
        return place >= 0 && place <= input.size();
    }

    private static boolean isRule(int rule) {
        return rule >= 0 && rule < RULES;
    }

    private static boolean isLetter(char c) {
        return c >= FIRST_LETTER && c <= LAST_LETTER;
    }

    private static boolean isRuleLetter(char c) {
        return c >= FIRST_RULE && c <= LAST_RULE;
    }

    private static boolean standsInTexts(char c) {
        return isLetter(c) || isRuleLetter(c) || SIGNS.indexOf(c) >= 0;
    }

    /** A row of characters with a bound: the pad, the input. */
    private static final class Characters {
        private final char[] row;
        private int size;

        Characters(int bound) {
            row = new char[bound >= 0 ? bound : 0];
        }

        int size() {
            return size;
        }

        boolean add(char c) {
            if (size < 0 || size >= row.length) {
                return false;
            }
            row[size] = c;
            size++;
            return true;
        }

        char at(int i) {
            return i >= 0 && i < size && i < row.length ? row[i] : END;
        }

        void removeAll() {
            size = 0;
        }
    }

    /** An expression inside an expression, or a whole one. */
    private static final class Node {
        private final int kind;
        /** Of a RANGE the lowest letter, of a RULE the rule. */
        private final int low;
        /** Of a RANGE the highest letter. */
        private final int high;
        /** The first of the rows or parts, or what a sign stands at; null if there is none. */
        private final Node first;
        /** The next row or part beside this one, null behind the last. */
        private Node next;
        /** The node that was made after this one, null behind the last. */
        private Node later;
        private int outcomes;
        private boolean good;

        Node(int kind, int low, int high, Node first) {
            this.kind = kind;
            this.low = low;
            this.high = high;
            this.first = first;
        }
    }

    /**
     * The nodes of a rule's expression as a chain, each behind those that are in it; so one walk
     * along it can find what depends on the inner ones, and the last is the whole expression.
     */
    private static final class Expression {
        private Node earliest;
        private Node root;

        Node add(int kind, int low, int high, Node first) {
            Node node = new Node(kind, low, high, first);
            if (root == null) {
                earliest = node;
            } else {
                root.later = node;
            }
            root = node;
            return node;
        }

        int outcomesOfRoot() {
            return root == null ? 0 : root.outcomes;
        }

        boolean rootIsGood() {
            return root != null && root.good;
        }

        /** A set of bits: which rules stand in it. */
        int rulesInIt() {
            int rules = 0;
            for (Node e = earliest; e != null; e = e.later) {
                if (e.kind == RULE) {
                    rules |= 1 << e.low;
                }
            }
            return rules;
        }

        boolean allGood() {
            for (Node e = earliest; e != null; e = e.later) {
                if (!e.good) {
                    return false;
                }
            }
            return true;
        }

        void forgetFindings() {
            for (Node e = earliest; e != null; e = e.later) {
                e.outcomes = 0;
                e.good = false;
            }
        }
    }

    /** Reads the pad's text. A method that meets a fault answers null and stays before it. */
    private static final class TextReader {
        private final Characters text;
        private Expression expression;
        private int at;
        private int ruleRead;

        TextReader(Characters text) {
            this.text = text;
            expression = new Expression();
        }

        int fault() {
            return at;
        }

        int ruleRead() {
            return ruleRead;
        }

        Expression read() {
            at = 0;
            expression = new Expression();
            char c = text.at(at);
            if (!isRuleLetter(c)) {
                return null;
            }
            ruleRead = c - FIRST_RULE;
            at++;
            if (!take('=') || readChoice(0) == null || at < text.size()) {
                return null;
            }
            return expression;
        }

        private boolean take(char c) {
            if (text.at(at) != c) {
                return false;
            }
            at++;
            return true;
        }

        private Node readChoice(int deep) {
            Node first = readRow(deep);
            Node last = first;
            for (int n = 0; n < PAD_SIZE && last != null && take('/'); n++) {
                Node row = readRow(deep);
                last.next = row;
                last = row;
            }
            if (last == null || last == first) {
                return last;
            }
            return expression.add(CHOICE, 0, 0, first);
        }

        private Node readRow(int deep) {
            Node first = readPart(deep);
            Node last = first;
            for (int n = 0; n < PAD_SIZE && last != null && beginsPart(text.at(at)); n++) {
                Node part = readPart(deep);
                last.next = part;
                last = part;
            }
            if (last == null || last == first) {
                return last;
            }
            return expression.add(ROW, 0, 0, first);
        }

        private Node readPart(int deep) {
            int before = signBefore(text.at(at));
            if (before != NO_KIND) {
                at++;
            }
            Node part = readUnit(deep);
            if (part == null) {
                return null;
            }
            int behind = signBehind(text.at(at));
            if (behind != NO_KIND) {
                at++;
                part = expression.add(behind, 0, 0, part);
            }
            return before == NO_KIND ? part : expression.add(before, 0, 0, part);
        }

        private Node readUnit(int deep) {
            char c = text.at(at);
            if (c == '[') {
                return readRange();
            }
            if (c == '(') {
                return deep < DEEPEST_GROUP ? readGroup(deep + 1) : null;
            }
            if (c == '.') {
                at++;
                return expression.add(RANGE, FIRST_LETTER, LAST_LETTER, null);
            }
            if (isLetter(c)) {
                at++;
                return expression.add(RANGE, c, c, null);
            }
            if (isRuleLetter(c)) {
                at++;
                return expression.add(RULE, c - FIRST_RULE, 0, null);
            }
            return null;
        }

        private Node readGroup(int deep) {
            at++;
            Node inside = readChoice(deep);
            return inside != null && take(')') ? inside : null;
        }

        private Node readRange() {
            at++;
            char low = text.at(at);
            if (!isLetter(low)) {
                return null;
            }
            at++;
            if (!take('-')) {
                return null;
            }
            char high = text.at(at);
            if (!isLetter(high) || high < low) {
                return null;
            }
            at++;
            return take(']') ? expression.add(RANGE, low, high, null) : null;
        }

        private static boolean beginsPart(char c) {
            return isLetter(c) || isRuleLetter(c) || signBefore(c) != NO_KIND
                    || c == '.' || c == '[' || c == '(';
        }

        private static int signBefore(char c) {
            if (c == '&') {
                return AND;
            }
            return c == '!' ? NOT : NO_KIND;
        }

        private static int signBehind(char c) {
            switch (c) {
                case '*':
                    return STAR;
                case '+':
                    return PLUS;
                case '?':
                    return MAYBE;
                default:
                    return NO_KIND;
            }
        }
    }

    /** The rules, and what is found out about them whenever one changes. */
    private static final class Grammar {
        /** Each pass but the last finds one of three outcomes more of one of the rules at least. */
        private static final int PASSES = 3 * RULES + 1;

        private final Expression[] expressions = new Expression[RULES];
        private int verdict = NO_RULES;

        int verdict() {
            return verdict;
        }

        boolean misses() {
            return verdict % 10 == MISSING;
        }

        /** The expression of a rule; null if there is no such rule, or it has none. */
        Expression expressionOf(int rule) {
            return isRule(rule) ? expressions[rule] : null;
        }

        int size() {
            int rules = 0;
            for (Expression expression : expressions) {
                if (expression != null) {
                    rules++;
                }
            }
            return rules;
        }

        /** Gives a rule another expression, or none with null. */
        void put(int rule, Expression expression) {
            if (isRule(rule)) {
                expressions[rule] = expression;
                verdict = examine();
            }
        }

        private int examine() {
            if (size() == 0) {
                return NO_RULES;
            }
            int missing = lowestMissing();
            if (missing != NONE) {
                return MISSING + 10 * missing;
            }
            forgetFindings();
            findOutcomes();
            findGood();
            int bad = lowestNotGood();
            return bad == NONE ? SOUND : NOT_GOOD + 10 * bad;
        }

        private int lowestMissing() {
            int standing = 0;
            for (Expression expression : expressions) {
                if (expression != null) {
                    standing |= expression.rulesInIt();
                }
            }
            for (int rule = 0; rule < expressions.length; rule++) {
                if (expressions[rule] == null && (standing & (1 << rule)) != 0) {
                    return rule;
                }
            }
            return NONE;
        }

        private int lowestNotGood() {
            for (int rule = 0; rule < expressions.length; rule++) {
                Expression expression = expressions[rule];
                if (expression != null && !expression.allGood()) {
                    return rule;
                }
            }
            return NONE;
        }

        private void forgetFindings() {
            for (Expression expression : expressions) {
                if (expression != null) {
                    expression.forgetFindings();
                }
            }
        }

        private void findOutcomes() {
            boolean more = true;
            for (int pass = 0; pass < PASSES && more; pass++) {
                more = false;
                for (Expression expression : expressions) {
                    more |= expression != null && findOutcomesIn(expression);
                }
            }
        }

        private boolean findOutcomesIn(Expression expression) {
            int before = expression.outcomesOfRoot();
            for (Node e = expression.earliest; e != null; e = e.later) {
                e.outcomes = outcomesOf(e);
            }
            return expression.outcomesOfRoot() != before;
        }

        private int outcomesOf(Node e) {
            switch (e.kind) {
                case RANGE:
                    return ON | FAILING;
                case RULE:
                    Expression expression = expressionOf(e.low);
                    return expression == null ? 0 : expression.outcomesOfRoot();
                case ROW:
                    return outcomesOfRow(e.first);
                case CHOICE:
                    return outcomesOfChoice(e.first);
                default:
                    return e.first == null ? 0 : outcomesOfSign(e.kind, e.first.outcomes);
            }
        }

        /** To join from the left gives the same as the document's first part and the rest. */
        private static int outcomesOfRow(Node first) {
            if (first == null) {
                return 0;
            }
            int row = first.outcomes;
            for (Node part = first.next; part != null; part = part.next) {
                row = joinInRow(row, part.outcomes);
            }
            return row;
        }

        private static int joinInRow(int p, int r) {
            int still = p & r & STILL;
            boolean goes = (p & (STILL | ON)) != 0;
            boolean on = goes && (r & ON) != 0 || (p & ON) != 0 && (r & STILL) != 0;
            boolean failing = (p & FAILING) != 0 || goes && (r & FAILING) != 0;
            return still | (on ? ON : 0) | (failing ? FAILING : 0);
        }

        private static int outcomesOfChoice(Node first) {
            if (first == null) {
                return 0;
            }
            int choice = first.outcomes;
            for (Node row = first.next; row != null; row = row.next) {
                // Only where the rows so far fail does the next one matter.
                if (any(choice, FAILING)) {
                    choice = choice & (STILL | ON) | row.outcomes;
                }
            }
            return choice;
        }

        private static int outcomesOfSign(int kind, int e) {
            switch (kind) {
                case STAR:
                    return e & ON | (any(e, FAILING) ? STILL : 0);
                case PLUS:
                    return e & (ON | FAILING) | (any(e, FAILING) ? e & STILL : 0);
                case MAYBE:
                    return e & ON | (any(e, STILL | FAILING) ? STILL : 0);
                case AND:
                    return e & FAILING | (any(e, STILL | ON) ? STILL : 0);
                case NOT:
                    return (any(e, FAILING) ? STILL : 0) | (any(e, STILL | ON) ? FAILING : 0);
                default:
                    return 0;
            }
        }

        private static boolean any(int outcomes, int wanted) {
            return (outcomes & wanted) != 0;
        }

        private void findGood() {
            boolean more = true;
            for (int pass = 0; pass < PASSES && more; pass++) {
                more = false;
                for (Expression expression : expressions) {
                    more |= expression != null && findGoodIn(expression);
                }
            }
        }

        private boolean findGoodIn(Expression expression) {
            boolean before = expression.rootIsGood();
            for (Node e = expression.earliest; e != null; e = e.later) {
                e.good = isGood(e);
            }
            return expression.rootIsGood() != before;
        }

        private boolean isGood(Node e) {
            switch (e.kind) {
                case RANGE:
                    return true;
                case RULE:
                    Expression expression = expressionOf(e.low);
                    return expression != null && expression.rootIsGood();
                case ROW:
                    return isGoodRow(e.first);
                case CHOICE:
                    return isGoodChoice(e.first);
                case STAR:
                case PLUS:
                    return e.first != null && e.first.good && !any(e.first.outcomes, STILL);
                default:
                    return e.first != null && e.first.good;
            }
        }

        private static boolean isGoodRow(Node first) {
            for (Node part = first; part != null; part = part.next) {
                if (!part.good) {
                    return false;
                }
                if (!any(part.outcomes, STILL)) {
                    return true;
                }
            }
            return true;
        }

        private static boolean isGoodChoice(Node first) {
            for (Node row = first; row != null; row = row.next) {
                if (!row.good) {
                    return false;
                }
            }
            return true;
        }
    }

    /**
     * What each rule gave at each place, and the cells of the rules that were matched for it there.
     * Those are written down here, so that the tree of what is remembered can be told again.
     */
    private static final class Memory {
        private final int[] gave = new int[CELLS];
        /** How many rules stand below a cell; only the first KEPT of them are held. */
        private final int[] belowSizes = new int[CELLS];
        private final byte[] below = new byte[CELLS * KEPT];

        Memory() {
            Arrays.fill(gave, NOTHING);
        }

        static int cellOf(int rule, int place) {
            boolean is = isRule(rule) && place >= 0 && place < PLACES;
            return is ? rule * PLACES + place : NO_CELL;
        }

        private static boolean isCell(int cell) {
            return cell >= 0 && cell < CELLS;
        }

        void forget() {
            Arrays.fill(gave, NOTHING);
        }

        int size() {
            int had = 0;
            for (int to : gave) {
                if (to != NOTHING) {
                    had++;
                }
            }
            return had;
        }

        int recall(int cell) {
            return isCell(cell) ? gave[cell] : NOTHING;
        }

        void keep(int cell, int to) {
            if (isCell(cell)) {
                gave[cell] = to;
            }
        }

        int belowSize(int cell) {
            return isCell(cell) ? belowSizes[cell] : 0;
        }

        void cutBelow(int cell, int size) {
            if (isCell(cell)) {
                belowSizes[cell] = size;
            }
        }

        void addBelow(int cell, int child) {
            if (isCell(cell) && isCell(child)) {
                int size = belowSizes[cell];
                if (size >= 0 && size < KEPT) {
                    below[cell * KEPT + size] = (byte) child;
                }
                belowSizes[cell] = size + 1;
            }
        }

        int below(int cell, int i) {
            return isCell(cell) && i >= 0 && i < KEPT ? below[cell * KEPT + i] : NO_CELL;
        }
    }

    /**
     * Matches rules at places. The cell that its methods carry is that of the rule which is worked
     * out, to which the rules met belong; it is NO_CELL inside & and !, where they belong to none.
     */
    private static final class Matcher {
        private final Grammar grammar;
        private final Characters input;
        private final Memory memory;
        private int begun;
        private int remembered;

        Matcher(Grammar grammar, Characters input, Memory memory) {
            this.grammar = grammar;
            this.input = input;
            this.memory = memory;
        }

        int begun() {
            return begun;
        }

        int remembered() {
            return remembered;
        }

        /** Only for a sound grammar; the depth is that at which the rule would be worked out. */
        int matchRule(int rule, int place, int depth) {
            int cell = Memory.cellOf(rule, place);
            int known = memory.recall(cell);
            if (known != NOTHING) {
                remembered++;
                return known;
            }
            return workOut(rule, place, depth, cell);
        }

        private int workOut(int rule, int place, int depth, int cell) {
            if (depth > DEEPEST_RULE) {
                throw new IllegalStateException("a rule would have to be worked out too deep");
            }
            begun++;
            memory.cutBelow(cell, 0);
            Expression expression = grammar.expressionOf(rule);
            int to = expression == null ? NONE : go(expression.root, place, depth, cell);
            memory.keep(cell, to);
            return to;
        }

        private int go(Node e, int place, int depth, int cell) {
            if (e == null) {
                return NONE;
            }
            switch (e.kind) {
                case RANGE:
                    return goLetter(e, place);
                case RULE:
                    return goRule(e.low, place, depth, cell);
                case ROW:
                    return goRow(e.first, place, depth + 1, cell);
                case CHOICE:
                    return goChoice(e.first, place, depth + 1, cell);
                case AND:
                    return go(e.first, place, depth + 1, NO_CELL) == NONE ? NONE : place;
                case NOT:
                    return go(e.first, place, depth + 1, NO_CELL) == NONE ? place : NONE;
                default:
                    return goRepeated(e, place, depth + 1, cell);
            }
        }

        private int goLetter(Node e, int place) {
            char c = input.at(place);
            return c >= e.low && c <= e.high ? place + 1 : NONE;
        }

        private int goRule(int rule, int place, int depth, int cell) {
            int to = matchRule(rule, place, depth + 2);
            if (to != NONE) {
                memory.addBelow(cell, Memory.cellOf(rule, place));
            }
            return to;
        }

        private int goRow(Node first, int place, int depth, int cell) {
            int to = place;
            for (Node part = first; part != null && to != NONE; part = part.next) {
                to = go(part, to, depth, cell);
            }
            return to;
        }

        private int goChoice(Node first, int place, int depth, int cell) {
            int size = memory.belowSize(cell);
            for (Node row = first; row != null; row = row.next) {
                int to = go(row, place, depth, cell);
                if (to != NONE) {
                    return to;
                }
                memory.cutBelow(cell, size);
            }
            return NONE;
        }

        private int goRepeated(Node e, int place, int depth, int cell) {
            // What is repeated is never still, so one time more than there are letters must fail.
            int most = e.kind == MAYBE ? 1 : PLACES;
            int at = e.kind == PLUS ? NONE : place;
            int from = place;
            for (int times = 0; times < most; times++) {
                int size = memory.belowSize(cell);
                int to = go(e.first, from, depth, cell);
                if (to == NONE) {
                    memory.cutBelow(cell, size);
                    break;
                }
                from = to;
                at = to;
            }
            return at;
        }
    }

    /** The first nodes of the tree of a match, held apart from the memory, which may be emptied. */
    private static final class Tree {
        private static final int OF_RULE = 0;
        private static final int BEGIN = 1;
        private static final int GOAL = 2;
        private static final int ABOVE = 3;
        private static final int WHATS = 4;

        private final int[][] rows = new int[WHATS][KEPT];
        private int size;

        int size() {
            return size;
        }

        boolean has(int i, int what) {
            return i >= 0 && i < size && what >= 0 && what < WHATS;
        }

        int tell(int i, int what) {
            return has(i, what) && i < KEPT ? rows[what][i] : NONE;
        }

        void fell() {
            size = 0;
        }

        /** The nodes below one are put right behind it before the next is looked at. */
        void grow(Memory memory, int cell) {
            size = 1;
            set(0, memory, cell, 0);
            for (int i = 0; i < KEPT && i < size; i++) {
                putBelow(i, memory);
            }
        }

        private void putBelow(int i, Memory memory) {
            int cell = Memory.cellOf(tell(i, OF_RULE), tell(i, BEGIN));
            int above = tell(i, ABOVE) + 1;
            int more = Math.min(memory.belowSize(cell), KEPT - 1 - i);
            makeRoom(i + 1, more);
            for (int k = 0; k < more; k++) {
                set(i + 1 + k, memory, memory.below(cell, k), above);
            }
        }

        /** Nodes that are moved beyond the last one that is kept are gone. */
        private void makeRoom(int from, int more) {
            if (from < 0 || more <= 0) {
                return;
            }
            size = Math.min(size + more, KEPT);
            for (int i = size - 1; i >= from + more; i--) {
                for (int what = 0; what < WHATS; what++) {
                    rows[what][i] = rows[what][i - more];
                }
            }
        }

        private void set(int i, Memory memory, int cell, int above) {
            if (i >= 0 && i < KEPT) {
                rows[OF_RULE][i] = cell / PLACES;
                rows[BEGIN][i] = cell % PLACES;
                rows[GOAL][i] = memory.recall(cell);
                rows[ABOVE][i] = above;
            }
        }
    }
}
