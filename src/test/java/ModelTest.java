import java.util.Map;
import java.util.Random;
import java.util.TreeMap;
import java.util.function.Supplier;

/** All promises: long runs of calls, whose answers must be those of the plain model. */
public final class ModelTest {
    private static final int RUNS = 3000;
    private static final int CALLS = 512;

    private final Random random;
    private final ChoiceParser x = new ChoiceParser();
    private final PlainModel model = new PlainModel();
    private final StringBuilder told = new StringBuilder();
    private final Map<Character, String> texts = new TreeMap<>();
    private int calls;
    private boolean wrong;
    private static final Map<String, Integer> SEEN = new TreeMap<>();
    private static int mostOpen;

    private ModelTest(int seed) {
        random = new Random(seed);
    }

    public static void main(String[] args) {
        int runs = args.length > 0 ? Integer.parseInt(args[0]) : RUNS;
        int wrong = 0;
        for (int seed = 0; seed < runs && wrong < 3; seed++) {
            ModelTest run = new ModelTest(seed);
            run.go();
            if (run.wrong) {
                wrong++;
                System.out.println("seed " + seed + ":\n" + run.told);
            }
        }
        System.out.println("seen: " + SEEN + "; most calls open where a depth was refused: " + mostOpen);
        wrong += missed("match goes", "match fails", "match too deep", "match unsound", "tree above 60",
            "text", "fault", "remembered") + (mostOpen > 200 ? 1 : 0);
        System.out.println(wrong == 0 ? "all answers are as due" : "answers are not as due");
        if (wrong != 0) {
            System.exit(1);
        }
    }

    /** A run that never met one of these would prove nothing about it. */
    private static int missed(String... names) {
        int missed = 0;
        for (String name : names) {
            if (SEEN.getOrDefault(name, 0) == 0) {
                System.out.println("never seen: " + name);
                missed++;
            }
        }
        return missed;
    }

    private static void saw(String name) {
        SEEN.merge(name, 1, Integer::sum);
    }

    private void same(String call, Supplier<Object> real, String due) {
        if (wrong || calls++ >= CALLS) {
            return;
        }
        String got;
        try {
            got = String.valueOf(real.get());
        } catch (RuntimeException e) {
            got = e.getClass().getSimpleName();
            if (due.equals("IllegalStateException")) {
                mostOpen = Math.max(mostOpen, e.getStackTrace().length);
            }
        }
        told.append(call).append(" -> ").append(got).append('\n');
        if (!got.equals(due)) {
            told.append("  due is ").append(due).append('\n');
            wrong = true;
        }
    }

    private void go() {
        int letters = 1 + random.nextInt(4);
        int rules = 1 + random.nextInt(6);
        int most = random.nextBoolean() ? 20 : 5;
        for (int rule = 0; rule < rules; rule++) {
            put(likelyText(rule, rules, letters));
        }
        // Many runs end early, so that calls are left to look at all there is.
        int last = CALLS - random.nextInt(400);
        while (calls < last && !wrong) {
            int dice = random.nextInt(100);
            if (dice < 15) {
                put(likelyText(random.nextInt(rules), rules, letters));
            } else if (dice < 17) {
                put(spoilt(text(random.nextInt(rules), rules, letters)));
            } else if (dice < 40) {
                feed(random.nextInt(most), letters);
            } else if (dice < 44) {
                same("clear()", x::clear, model.clear());
            } else if (dice < 46) {
                int rule = random.nextInt(8) - 1;
                texts.remove((char) ('A' + rule));
                same("drop(" + rule + ")", () -> x.drop(rule), model.drop(rule));
            } else if (dice < 50) {
                same("check()", x::check, model.check());
            } else if (dice < 54) {
                int rule = random.nextInt(8) - 1;
                same("outcomes(" + rule + ")", () -> x.outcomes(rule), model.outcomes(rule));
            } else {
                match(rules);
            }
            look();
        }
        lookWhole();
    }

    private void put(String text) {
        for (char c : text.toCharArray()) {
            same("type(" + c + ")", () -> x.type(c), model.type(c));
        }
        String due = model.rule();
        saw(due.equals("0") ? "text" : "fault");
        if (due.equals("0")) {
            texts.put(text.charAt(0), text);
        }
        same("rule()", x::rule, due);
    }

    private void feed(int n, int letters) {
        for (int i = 0; i < n; i++) {
            char c = random.nextInt(50) == 0 ? (char) random.nextInt(128) : (char) ('a' + random.nextInt(letters));
            same("feed(" + c + ")", () -> x.feed(c), model.feed(c));
        }
    }

    private void match(int rules) {
        int rule = random.nextInt(20) == 0 ? random.nextInt(8) - 1 : random.nextInt(rules);
        int place = random.nextInt(20) == 0 ? random.nextInt(24) - 1 : random.nextInt(model.input.length() + 1);
        int had = Integer.parseInt(model.count(5));
        String due = model.match(rule, place);
        same("match(" + rule + ", " + place + ")", () -> x.match(rule, place), due);
        saw(due.equals("-1") ? "match fails" : due.length() < 3 ? "match goes"
            : !due.startsWith("IllegalS") ? "match refused" : model.check().equals("0") ? "match too deep" : "match unsound");
        if (model.treeSize > 60) {
            saw("tree above 60");
        }
        if (Integer.parseInt(model.count(5)) > had) {
            saw("remembered");
        }
    }

    /** Some questions that change nothing. */
    private void look() {
        for (int n = random.nextInt(5); n > 0; n--) {
            int i = random.nextInt(8) - 1;
            int k = random.nextInt(10) == 0 ? random.nextInt(64) - 1 : random.nextInt(model.input.length() + 1);
            same("memory(" + i + ", " + k + ")", () -> x.memory(i, k), model.memory(i, k));
            int what = random.nextInt(6) - 1;
            int node = random.nextInt(Integer.parseInt(model.count(3)) + 2) - random.nextInt(2);
            same("node(" + node + ", " + what + ")", () -> x.node(node, what), model.node(node, what));
            same("count(" + i + ")", () -> x.count(i), model.count(i));
        }
        same("count(4)", () -> x.count(4), model.count(4));
        same("count(5)", () -> x.count(5), model.count(5));
        same("full()", x::full, model.full());
    }

    /** The whole tree and memory, as far as the calls reach. */
    private void lookWhole() {
        for (int i = 0; i <= Integer.parseInt(model.count(3)); i++) {
            for (int what = 0; what < 4; what++) {
                int w = what;
                int n = i;
                quietly("node(" + n + ", " + w + ")", () -> x.node(n, w), model.node(n, w));
            }
        }
        for (int rule = 0; rule < 6; rule++) {
            for (int place = 0; place <= model.input.length(); place++) {
                int r = rule;
                int p = place;
                quietly("memory(" + r + ", " + p + ")", () -> x.memory(r, p), model.memory(r, p));
            }
        }
    }

    private void quietly(String call, Supplier<Object> real, String due) {
        int length = told.length();
        same(call, real, due);
        if (!wrong) {
            told.setLength(length);
        }
    }

    /** A text that mostly leaves the grammar sound, or sound but for rules that are missing. */
    private String likelyText(int rule, int rules, int letters) {
        String text = text(rule, rules, letters);
        for (int tries = random.nextInt(40); tries > 0 && !leavesSound(text); tries--) {
            text = text(rule, rules, letters);
        }
        return text;
    }

    private boolean leavesSound(String text) {
        PlainModel other = new PlainModel();
        Map<Character, String> all = new TreeMap<>(texts);
        all.put(text.charAt(0), text);
        for (String one : all.values()) {
            other.pad = one;
            other.rule();
        }
        return !other.check().endsWith("3");
    }

    private String text(int rule, int rules, int letters) {
        String text = (char) ('A' + rule) + "=";
        if (random.nextInt(6) == 0) {
            return text + many(rules);
        }
        String whole = text + choice(1 + random.nextInt(22), 0, rules, letters);
        return whole.length() > 24 && random.nextInt(20) != 0 ? text(rule, rules, letters) : whole;
    }

    /** Rules side by side, so that trees grow large. */
    private String many(int rules) {
        StringBuilder row = new StringBuilder(random.nextBoolean() ? "." : "");
        char rule = (char) ('A' + random.nextInt(rules));
        for (int n = random.nextInt(18); n >= 0; n--) {
            row.append(random.nextInt(6) == 0 ? (char) ('A' + random.nextInt(rules)) : rule);
        }
        return random.nextBoolean() ? "(" + row + ")?" : row.toString();
    }

    private String spoilt(String text) {
        int at = random.nextInt(text.length());
        String all = "abcdefghiABCDEF=/&!*+?.[-]()";
        String c = String.valueOf(all.charAt(random.nextInt(all.length())));
        return text.substring(0, at) + (random.nextBoolean() ? c : "") + text.substring(at + random.nextInt(2));
    }

    private String choice(int size, int deep, int rules, int letters) {
        if (size < 3 || random.nextInt(3) > 0) {
            return row(size, deep, rules, letters);
        }
        int first = 1 + random.nextInt(size - 2);
        return row(first, deep, rules, letters) + "/" + choice(size - first - 1, deep, rules, letters);
    }

    private String row(int size, int deep, int rules, int letters) {
        StringBuilder row = new StringBuilder();
        do {
            row.append(part(size - row.length(), deep, rules, letters));
        } while (row.length() < size && random.nextInt(5) > 0);
        return row.toString();
    }

    private String part(int size, int deep, int rules, int letters) {
        String before = size > 1 && random.nextInt(8) == 0 ? random.nextBoolean() ? "&" : "!" : "";
        String behind = size > 2 && random.nextInt(5) == 0 ? String.valueOf("*+?".charAt(random.nextInt(3))) : "";
        int left = size - before.length() - behind.length();
        return before + unit(left, deep, rules, letters) + behind;
    }

    private String unit(int size, int deep, int rules, int letters) {
        int dice = random.nextInt(20);
        if (dice < 5 && size > 2) {
            return "(" + choice(1 + random.nextInt(size - 2), deep + 1, rules, letters) + ")";
        }
        if (dice < 6 && size > 4) {
            int low = random.nextInt(letters);
            return "[" + (char) ('a' + low) + "-" + (char) ('a' + low + random.nextInt(9 - low)) + "]";
        }
        if (dice < 8) {
            return ".";
        }
        return String.valueOf(dice < 15 ? (char) ('a' + random.nextInt(letters)) : (char) ('A' + random.nextInt(rules)));
    }
}
