import java.util.ArrayList;
import java.util.List;
import java.util.Random;
import java.util.TreeSet;

/**
 * Long runs of calls, drawn from fixed seeds, each answer held against a model that follows the
 * document word for word: it tries the triples that hold on each pattern of each body in turn.
 */
public final class ModelTests {
    /** An object is used for 512 calls; the last of them go through all that holds. */
    private static final int CALLS = 512;
    private static final int CALLS_DRAWN = 400;
    private static final int CALLS_OF_A_CROWD = 150;
    private static final int RUNS = 40;
    private static final int ENOUGH_WRONG = 20;

    private static int wrong = 0;
    private static int calls = 0;

    /** The document's words, as plain as can be. */
    private static final class Model {
        private final TreeSet<Integer> said = new TreeSet<>();
        private TreeSet<Integer> held = new TreeSet<>();
        private final List<List<int[]>> rules = new ArrayList<>();
        private List<int[]> making = new ArrayList<>();

        private static boolean isTriple(int a, int b, int c) {
            return a >= 0 && a < 32 && b >= 0 && b < 32 && c >= 0 && c < 32;
        }

        private static boolean isPattern(int a, int b, int c) {
            return a >= -8 && a < 32 && b >= -8 && b < 32 && c >= -8 && c < 32;
        }

        private static int[] bindings() {
            int[] values = new int[9];
            java.util.Arrays.fill(values, -1);
            return values;
        }

        private static boolean match(int[] pattern, int code, int[] values) {
            int[] numbers = {code / 1024, code / 32 % 32, code % 32};
            for (int i = 0; i < 3; i++) {
                if (pattern[i] >= 0) {
                    if (pattern[i] != numbers[i]) {
                        return false;
                    }
                } else if (values[-pattern[i]] < 0) {
                    values[-pattern[i]] = numbers[i];
                } else if (values[-pattern[i]] != numbers[i]) {
                    return false;
                }
            }
            return true;
        }

        private static int headOf(int[] pattern, int[] values) {
            int code = 0;
            for (int item : pattern) {
                code = code * 32 + (item >= 0 ? item : values[-item]);
            }
            return code;
        }

        private static void cases(List<int[]> rule, int at, int[] of, int[] values, int[] support) {
            if (at == rule.size() - 1) {
                support[headOf(rule.get(at), values)]++;
                return;
            }
            for (int code : of) {
                int[] more = values.clone();
                if (match(rule.get(at), code, more)) {
                    cases(rule, at + 1, of, more, support);
                }
            }
        }

        /** For each code, how many cases give it where these triples hold. */
        private int[] supports(TreeSet<Integer> set) {
            int[] of = set.stream().mapToInt(Integer::intValue).toArray();
            int[] support = new int[32768];
            for (List<int[]> rule : rules) {
                cases(rule, 0, of, bindings(), support);
            }
            return support;
        }

        /** The least set, or null when it has more than 300. */
        private TreeSet<Integer> least() {
            TreeSet<Integer> set = new TreeSet<>(said);
            while (set.size() <= 300) {
                int[] support = supports(set);
                int before = set.size();
                for (int code = 0; code < support.length; code++) {
                    if (support[code] > 0) {
                        set.add(code);
                    }
                }
                if (set.size() == before) {
                    return set;
                }
            }
            return null;
        }

        int say(int a, int b, int c) {
            if (!isTriple(a, b, c)) {
                return -1;
            }
            int code = 1024 * a + 32 * b + c;
            if (!said.add(code)) {
                return 0;
            }
            TreeSet<Integer> set = least();
            if (set == null) {
                said.remove(code);
                return -3;
            }
            held = set;
            return 1;
        }

        int unsay(int a, int b, int c) {
            if (!isTriple(a, b, c)) {
                return -1;
            }
            if (!said.remove(1024 * a + 32 * b + c)) {
                return 0;
            }
            held = least();
            return 1;
        }

        int pattern(int a, int b, int c) {
            if (!isPattern(a, b, c)) {
                return -1;
            }
            if (making.size() == 4) {
                return -3;
            }
            making.add(new int[] {a, b, c});
            return making.size();
        }

        private boolean makingIsRule() {
            if (making.size() < 2) {
                return false;
            }
            for (int item : making.get(making.size() - 1)) {
                boolean found = item >= 0;
                for (int[] pattern : making.subList(0, making.size() - 1)) {
                    found |= pattern[0] == item || pattern[1] == item || pattern[2] == item;
                }
                if (!found) {
                    return false;
                }
            }
            return true;
        }

        int rule() {
            if (!makingIsRule()) {
                making = new ArrayList<>();
                return -1;
            }
            if (rules.size() == 12) {
                return -3;
            }
            rules.add(making);
            TreeSet<Integer> set = least();
            if (set == null) {
                rules.remove(rules.size() - 1);
                return -3;
            }
            held = set;
            making = new ArrayList<>();
            return rules.size() - 1;
        }

        int unrule(int k) {
            if (k < 0 || k >= rules.size()) {
                return -1;
            }
            rules.remove(k);
            held = least();
            return rules.size();
        }

        int holds(int a, int b, int c) {
            if (!isTriple(a, b, c)) {
                return -1;
            }
            int code = 1024 * a + 32 * b + c;
            return said.contains(code) ? 1 : held.contains(code) ? 2 : 0;
        }

        int support(int a, int b, int c) {
            if (!isTriple(a, b, c)) {
                return -1;
            }
            return supports(held)[1024 * a + 32 * b + c];
        }

        int next(int n) {
            Integer code = held.higher(n);
            return code == null ? -2 : code;
        }

        int fitting(int a, int b, int c) {
            if (!isPattern(a, b, c)) {
                return -1;
            }
            int count = 0;
            for (int code : held) {
                count += match(new int[] {a, b, c}, code, bindings()) ? 1 : 0;
            }
            return count;
        }

        int clear() {
            int were = said.size();
            said.clear();
            held = least();
            return were;
        }
    }

    /**
     * How a run draws its numbers: a small world meets itself often, a wide one fills up. In an open
     * run the middle of a triple is drawn like its ends.
     */
    private static final class Run {
        final Random random;
        final int world;
        final int verbs;
        final int names;
        final int bodies;
        final int sayWeight;
        final boolean isOpen;
        final RuleKeeper real = new RuleKeeper();
        final Model model = new Model();

        Run(int seed) {
            random = new Random(seed);
            world = 2 + random.nextInt(seed % 3 == 0 ? 30 : 6);
            verbs = 1 + random.nextInt(4);
            names = 2 + random.nextInt(7);
            bodies = 1 + random.nextInt(3);
            sayWeight = 20 + random.nextInt(30);
            isOpen = seed % 4 == 1;
        }

        /** A run whose rules meet so much from the first that many of them are too much. */
        boolean isCrowded() {
            return bodies < 3 && world > 8;
        }

        int number() {
            int r = random.nextInt(100);
            return r == 0 ? 32 : r == 1 ? -1 : random.nextInt(world);
        }

        int verb() {
            return random.nextInt(50) == 0 ? random.nextInt(32) : random.nextInt(isOpen ? world : verbs);
        }

        int item() {
            int r = random.nextInt(300);
            if (r < 2) {
                return r == 0 ? -9 : 32;
            }
            return r < 70 ? random.nextInt(world) : -1 - random.nextInt(names);
        }

        int verbItem() {
            return isOpen || random.nextInt(6) == 0 ? item() : verb();
        }

        /** Mostly an item that can stand in a head: for a variable, one of the patterns before it. */
        int headItem(int item) {
            if (item >= 0 || model.making.isEmpty() || random.nextInt(12) == 0) {
                return item;
            }
            return model.making.get(random.nextInt(model.making.size()))[random.nextInt(3)];
        }

        int heldOrAny() {
            int code = model.next(random.nextInt(world * 1024) - 1);
            return code < 0 || random.nextInt(4) == 0 ? random.nextInt(32768) : code;
        }
    }

    private static void due(String call, int got, int want) {
        calls++;
        if (got != want) {
            wrong++;
            System.out.println(call + " answered " + got + ", due is " + want);
        }
    }

    private static void sayOne(Run run, String mark) {
        int a = run.number();
        int b = run.verb();
        int c = run.number();
        due(mark + "say", run.real.say(a, b, c), run.model.say(a, b, c));
    }

    private static void step(Run run, String mark) {
        int r = run.random.nextInt(100);
        if (r < run.sayWeight) {
            sayOne(run, mark);
        } else if (r < 58) {
            int code = run.heldOrAny();
            int a = code / 1024;
            int b = code / 32 % 32;
            int c = code % 32;
            due(mark + "unsay", run.real.unsay(a, b, c), run.model.unsay(a, b, c));
        } else if (r < 76) {
            makeRule(run, mark);
        } else if (r < 79) {
            int k = run.random.nextInt(14) - 1;
            due(mark + "unrule", run.real.unrule(k), run.model.unrule(k));
        } else if (r == 79) {
            if (run.random.nextInt(8) == 0) {
                due(mark + "clear", run.real.clear(), run.model.clear());
            }
        } else {
            ask(run, mark);
        }
        due(mark + "size", run.real.size(), run.model.held.size());
    }

    private static void makeRule(Run run, String mark) {
        int many = run.random.nextInt(20) == 0 ? run.random.nextInt(6) : 1 + run.bodies;
        for (int i = 0; i < many; i++) {
            boolean isHead = i == many - 1;
            int a = isHead ? run.headItem(run.item()) : run.item();
            int b = isHead ? run.headItem(run.verbItem()) : run.verbItem();
            int c = isHead ? run.headItem(run.item()) : run.item();
            due(mark + "pattern", run.real.pattern(a, b, c), run.model.pattern(a, b, c));
        }
        due(mark + "rule", run.real.rule(), run.model.rule());
        due(mark + "rules", run.real.rules(), run.model.rules.size());
    }

    private static void ask(Run run, String mark) {
        int code = run.heldOrAny();
        int a = code / 1024;
        int b = code / 32 % 32;
        int c = code % 32;
        int n = run.random.nextInt(3000) - 10;
        due(mark + "holds", run.real.holds(a, b, c), run.model.holds(a, b, c));
        due(mark + "support", run.real.support(a, b, c), run.model.support(a, b, c));
        due(mark + "next", run.real.next(n), run.model.next(n));
        a = run.item();
        b = run.verbItem();
        c = run.item();
        due(mark + "fitting", run.real.fitting(a, b, c), run.model.fitting(a, b, c));
    }

    private static void compareAll(Run run, String mark) {
        int from = -1;
        while (calls + 2 <= CALLS) {
            int code = run.model.next(from);
            due(mark + "next at the end", run.real.next(from), code);
            if (code < 0) {
                return;
            }
            due(mark + "holds at the end", run.real.holds(code / 1024, code / 32 % 32, code % 32),
                    run.model.holds(code / 1024, code / 32 % 32, code % 32));
            from = code;
        }
    }

    public static void main(String[] args) {
        int runs = args.length > 0 ? Integer.parseInt(args[0]) : RUNS;
        for (int seed = 1; seed <= runs && wrong < ENOUGH_WRONG; seed++) {
            Run run = new Run(seed);
            calls = 0;
            for (int i = 0; i < CALLS_OF_A_CROWD && run.isCrowded(); i++) {
                sayOne(run, "seed " + seed + " crowd " + i + ": ");
            }
            for (int i = 0; calls < CALLS_DRAWN && wrong < ENOUGH_WRONG; i++) {
                step(run, "seed " + seed + " step " + i + ": ");
            }
            compareAll(run, "seed " + seed + ": ");
        }
        System.out.println(wrong == 0 ? "the model agrees" : wrong + " answers differ from the model's");
        if (wrong != 0) {
            System.exit(1);
        }
    }
}
