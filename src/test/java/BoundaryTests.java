/**
 * The boundary cases that the document names, a test for each of its sentences. A test bears the
 * sentence as its name, so that a failure tells which words are broken.
 */
public final class BoundaryTests {
    private static final int BAD = -1;
    private static final int NO = -2;
    private static final int FULL = -3;
    private static final int LEAST = Integer.MIN_VALUE;
    private static final int GREATEST = Integer.MAX_VALUE;
    private static final int MOST_CALLS = 512;
    private static final int MOST_TRIPLES = 300;
    private static final int MOST_RULES = 12;

    /** Some of these times 32 or 1024 wrap around to what would be a code. */
    private static final int[] NO_NUMBERS = {-1, -2, -8, -9, -32, 32, 33, 63, 64, 1024, 32768, 1 << 22, 1 << 27,
        -(1 << 22), -(1 << 27), LEAST, LEAST + 1, GREATEST};
    private static final int[] NO_ITEMS = {-9, -10, -16, -32, 32, 33, 63, 64, 1024, 32768, 1 << 22, 1 << 27,
        -(1 << 22), -(1 << 27), LEAST, LEAST + 1, LEAST + 7, GREATEST};

    private static String sentence = "";
    private static String lastCall = "";
    private static int wrong = 0;
    private static int tests = 0;

    /** An object that counts its calls: a test that asks it more than is promised would prove nothing. */
    private static final class Keeper {
        private final RuleKeeper inside = new RuleKeeper();
        private int calls = 0;

        private int used(String call, int answer) {
            lastCall = call;
            calls++;
            if (calls == MOST_CALLS + 1) {
                fault("the test makes more calls than are promised");
            }
            return answer;
        }

        private static String told(String name, int a, int b, int c) {
            return name + "(" + a + ", " + b + ", " + c + ")";
        }

        int say(int a, int b, int c) {
            return used(told("say", a, b, c), inside.say(a, b, c));
        }

        int unsay(int a, int b, int c) {
            return used(told("unsay", a, b, c), inside.unsay(a, b, c));
        }

        int pattern(int a, int b, int c) {
            return used(told("pattern", a, b, c), inside.pattern(a, b, c));
        }

        int rule() {
            return used("rule()", inside.rule());
        }

        int unrule(int k) {
            return used("unrule(" + k + ")", inside.unrule(k));
        }

        int rules() {
            return used("rules()", inside.rules());
        }

        int holds(int a, int b, int c) {
            return used(told("holds", a, b, c), inside.holds(a, b, c));
        }

        int support(int a, int b, int c) {
            return used(told("support", a, b, c), inside.support(a, b, c));
        }

        int size() {
            return used("size()", inside.size());
        }

        int next(int n) {
            return used("next(" + n + ")", inside.next(n));
        }

        int fitting(int a, int b, int c) {
            return used(told("fitting", a, b, c), inside.fitting(a, b, c));
        }

        int clear() {
            return used("clear()", inside.clear());
        }
    }

    private interface OnTriple {
        int answer(int a, int b, int c);
    }

    private interface State {
        Keeper make();
    }

    private interface Calls {
        void on(Keeper x);
    }

    private static void fault(String what) {
        wrong++;
        System.out.println("'" + sentence + "': " + what);
    }

    private static void due(int want, int got) {
        if (got != want) {
            fault(lastCall + " answered " + got + ", due is " + want);
        }
    }

    private static void test(String words, Runnable body) {
        sentence = words;
        tests++;
        try {
            body.run();
        } catch (RuntimeException | StackOverflowError thrown) {
            fault("a call threw " + thrown + " after " + lastCall);
        }
    }

    public static void main(String[] args) {
        whatItIs();
        termsOfTriplesAndPatterns();
        termsOfRules();
        termsOfCases();
        termsOfTheLimit();
        promise1();
        promise2();
        promise3();
        promise4();
        promise5();
        promise6();
        promise7();
        promise8();
        promise9();
        promise10();
        promise11();
        promise12();
        promise13();
        System.out.println(wrong == 0 ? tests + " sentences hold" : wrong + " answers are not as due");
        if (wrong != 0) {
            System.exit(1);
        }
    }

    // States and comparisons that many tests use.

    /** Patterns of three items each; how many there are then is told by the caller's next call. */
    private static void draft(Keeper x, int... items) {
        for (int i = 0; i + 2 < items.length; i += 3) {
            x.pattern(items[i], items[i + 1], items[i + 2]);
        }
    }

    private static int ruleOf(Keeper x, int... items) {
        draft(x, items);
        return x.rule();
    }

    private static void draftOfPaths(Keeper x) {
        draft(x, -1, 0, -2, -2, 0, -3, -1, 0, -3);
    }

    private static void sayChain(Keeper x, int steps) {
        for (int i = 0; i < steps; i++) {
            due(1, x.say(i, 0, i + 1));
        }
    }

    /** A chain of so many steps, and all paths along it: steps * (steps + 1) / 2 triples hold. */
    private static Keeper paths(int steps) {
        Keeper x = new Keeper();
        draftOfPaths(x);
        due(0, x.rule());
        sayChain(x, steps);
        return x;
    }

    /** 300 hold: 24 that are said and 276 that follow. */
    private static Keeper full() {
        return paths(24);
    }

    private static Keeper said(int many) {
        Keeper x = new Keeper();
        for (int i = 0; i < many; i++) {
            due(1, x.say(i / 32, i % 32, 0));
        }
        return x;
    }

    private static Keeper twelveRules() {
        Keeper x = new Keeper();
        for (int k = 0; k < MOST_RULES; k++) {
            due(k, ruleOf(x, -1, k, -2, -2, k + 1, -1));
        }
        return x;
    }

    private static Keeper pathsAndDraft() {
        Keeper x = paths(10);
        draft(x, -1, -2, -3, -3, 1, -1);
        return x;
    }

    /** After the calls, the object answers as one that never had them. */
    private static void changesNothing(State state, Calls calls) {
        Keeper x = state.make();
        calls.on(x);
        alike(x, state.make());
    }

    private static void alike(Keeper x, Keeper untouched) {
        due(untouched.size(), x.size());
        due(untouched.rules(), x.rules());
        int from = -1;
        for (int i = 0; i <= MOST_TRIPLES && from != NO; i++) {
            int code = untouched.next(from);
            due(code, x.next(from));
            if (code >= 0 && i % 4 == 0) {
                int a = code / 1024;
                int b = code / 32 % 32;
                int c = code % 32;
                due(untouched.holds(a, b, c), x.holds(a, b, c));
                due(untouched.support(a, b, c), x.support(a, b, c));
            }
            from = code;
        }
        due(untouched.clear(), x.clear());
        due(untouched.pattern(30, 30, 30), x.pattern(30, 30, 30));
        due(untouched.rule(), x.rule());
        due(untouched.say(0, 0, 0), x.say(0, 0, 0));
        due(untouched.say(0, 1, 0), x.say(0, 1, 0));
        due(untouched.size(), x.size());
        due(untouched.holds(30, 30, 30), x.holds(30, 30, 30));
    }

    private static void refuses(OnTriple call, int[] wrongOnes) {
        for (int w : wrongOnes) {
            due(BAD, call.answer(w, 0, 31));
            due(BAD, call.answer(31, w, 0));
            due(BAD, call.answer(0, 31, w));
            due(BAD, call.answer(w, w, w));
        }
    }

    // What it is

    private static void whatItIs() {
        test("An object is used for at most 512 calls: says and unsays", BoundaryTests::callsThatSay);
        test("An object is used for at most 512 calls: rules and unrules", BoundaryTests::callsThatMakeRules);
        test("An object is used for at most 512 calls: refused ones", BoundaryTests::callsThatAreRefused);
        test("An object is used for at most 512 calls: at the limit of triples", BoundaryTests::callsAtTheLimit);
    }

    private static void allCallsMade(Keeper x) {
        if (x.calls != MOST_CALLS) {
            fault("the test made " + x.calls + " calls");
        }
    }

    private static void callsThatSay() {
        Keeper x = new Keeper();
        for (int i = 0; i < 255; i++) {
            due(1, x.say(i % 32, i / 32, 31));
            due(1, x.unsay(i % 32, i / 32, 31));
        }
        due(1, x.say(31, 31, 31));
        due(32767, x.next(-1));
        allCallsMade(x);
    }

    private static void callsThatMakeRules() {
        Keeper x = new Keeper();
        due(1, x.say(1, 2, 3));
        for (int i = 0; i < 127; i++) {
            due(1, x.pattern(-1, -2, -3));
            due(2, x.pattern(-3, -2, i % 32));
            due(0, x.rule());
            due(0, x.unrule(0));
        }
        due(1, x.size());
        due(0, x.rules());
        due(BAD, x.rule());
        allCallsMade(x);
    }

    private static void callsThatAreRefused() {
        Keeper x = full();
        draft(x, -1, 0, -2, -2, 1, -1, 5, 5, 5, -2, 2, -1);
        while (x.calls + 5 < MOST_CALLS) {
            due(FULL, x.say(31, 31, 31));
            due(FULL, x.pattern(1, 1, 1));
            due(BAD, x.unrule(1));
            due(BAD, x.holds(0, 0, 32));
            due(0, x.unsay(31, 31, 31));
        }
        while (x.calls < MOST_CALLS) {
            due(MOST_TRIPLES, x.size());
        }
        allCallsMade(x);
    }

    private static void callsAtTheLimit() {
        Keeper x = full();
        while (x.calls + 4 < MOST_CALLS) {
            due(1, x.unsay(23, 0, 24));
            due(276, x.size());
            due(1, x.say(23, 0, 24));
            due(FULL, x.say(24, 0, 25));
        }
        while (x.calls < MOST_CALLS) {
            due(23, x.support(0, 0, 24));
        }
        allCallsMade(x);
    }

    // Terms

    private static void termsOfTriplesAndPatterns() {
        test("TRIPLES are three numbers 0 .. 31", BoundaryTests::numbersOfTriples);
        test("the CODE of (a, b, c) is 1024 a + 32 b + c", BoundaryTests::codes);
        test("PATTERNS are three items, each a number 0 .. 31 or a VARIABLE, -1 .. -8",
                BoundaryTests::itemsOfPatterns);
        test("a VARIABLE, -1 .. -8: each is one of its own", BoundaryTests::eightVariables);
    }

    private static void numbersOfTriples() {
        for (int v = -12; v <= 44; v++) {
            boolean isNumber = v >= 0 && v <= 31;
            Keeper x = new Keeper();
            due(isNumber ? 1 : BAD, x.say(v, 0, 31));
            due(isNumber ? 1 : BAD, x.say(31, v, 0));
            due(isNumber ? 1 : BAD, x.say(0, 31, v));
            due(isNumber ? 1 : BAD, x.holds(v, 0, 31));
            due(isNumber ? 1 : BAD, x.holds(31, v, 0));
            due(isNumber ? 1 : BAD, x.holds(0, 31, v));
            due(isNumber ? 0 : BAD, x.support(v, 0, 31));
            due(isNumber ? 0 : BAD, x.support(31, v, 0));
            due(isNumber ? 0 : BAD, x.support(0, 31, v));
            due(isNumber ? 3 : 0, x.size());
            due(isNumber ? 1 : BAD, x.unsay(v, 0, 31));
            due(isNumber ? 1 : BAD, x.unsay(31, v, 0));
            due(isNumber ? 1 : BAD, x.unsay(0, 31, v));
        }
    }

    private static void codes() {
        int[][] edges = {{0, 0, 0, 0}, {0, 0, 1, 1}, {0, 0, 31, 31}, {0, 1, 0, 32}, {0, 31, 0, 992},
            {0, 31, 31, 1023}, {1, 0, 0, 1024}, {31, 0, 0, 31744}, {31, 31, 30, 32766}, {31, 31, 31, 32767}};
        Keeper all = new Keeper();
        int from = -1;
        for (int[] edge : edges) {
            Keeper x = new Keeper();
            due(1, x.say(edge[0], edge[1], edge[2]));
            due(edge[3], x.next(-1));
            due(1, all.say(edge[0], edge[1], edge[2]));
        }
        for (int[] edge : edges) {
            due(edge[3], all.next(from));
            from = edge[3];
        }
        due(NO, all.next(from));
    }

    private static void itemsOfPatterns() {
        for (int v = -24; v <= 48; v++) {
            boolean isItem = v >= -8 && v <= 31;
            Keeper x = new Keeper();
            due(isItem ? 1 : BAD, x.pattern(v, 0, 31));
            due(isItem ? 2 : BAD, x.pattern(31, v, 0));
            due(isItem ? 3 : BAD, x.pattern(0, 31, v));
            due(isItem ? 0 : BAD, x.fitting(v, 0, 31));
            due(isItem ? 0 : BAD, x.fitting(31, v, 0));
            due(isItem ? 0 : BAD, x.fitting(0, 31, v));
        }
    }

    private static void eightVariables() {
        Keeper x = new Keeper();
        due(1, x.say(1, 2, 3));
        due(1, x.say(4, 4, 5));
        for (int one = -8; one <= -1; one++) {
            for (int other = -8; other <= -1; other++) {
                int third = -1;
                while (third == one || third == other) {
                    third--;
                }
                due(one == other ? 1 : 2, x.fitting(one, other, third));
            }
        }
        Keeper y = new Keeper();
        due(0, ruleOf(y, -1, -2, -3, -4, -5, -6, -7, -8, 20, -8, -7, -6));
        due(1, y.say(10, 11, 20));
        due(2, y.holds(11, 10, 20));
        due(2, y.size());
        due(2 * 2, y.support(11, 10, 20));
    }

    private static void termsOfRules() {
        test("A RULE, at most 12, numbered from 0", BoundaryTests::twelveOfThem);
        test("has a BODY of one to three patterns", BoundaryTests::bodies);
        test("and a HEAD, a pattern whose variables stand in the body", BoundaryTests::heads);
    }

    private static void twelveOfThem() {
        Keeper x = twelveRules();
        due(MOST_RULES, x.rules());
        due(FULL, ruleOf(x, -1, 20, -2, -1, 21, -2));
        due(MOST_RULES, x.rules());
        due(1, x.say(1, 0, 2));
        for (int k = 0; k < MOST_RULES; k++) {
            due(1, x.support(k % 2 == 0 ? 2 : 1, k + 1, k % 2 == 0 ? 1 : 2));
        }
        due(1 + MOST_RULES, x.size());
    }

    private static void bodies() {
        Keeper x = new Keeper();
        due(BAD, ruleOf(x, 9, 9, 9));
        due(0, ruleOf(x, -1, 0, 0, -1, 10, 10));
        due(1, ruleOf(x, -1, 0, 0, -1, 0, 1, -1, 11, 11));
        due(2, ruleOf(x, -1, 0, 0, -1, 0, 1, -1, 0, 2, -1, 12, 12));
        due(1, x.say(5, 0, 0));
        due(2, x.size());
        due(2, x.holds(5, 10, 10));
        due(1, x.say(5, 0, 1));
        due(4, x.size());
        due(2, x.holds(5, 11, 11));
        due(1, x.say(5, 0, 2));
        due(6, x.size());
        due(2, x.holds(5, 12, 12));
        due(1, x.unsay(5, 0, 0));
        due(2, x.size());
    }

    private static void heads() {
        int[][] wheres = {{-1, 0, 0}, {0, -1, 0}, {0, 0, -1}};
        for (int[] in : wheres) {
            for (int[] out : wheres) {
                Keeper x = new Keeper();
                due(0, ruleOf(x, in[0], in[1], in[2], out[0], out[1], out[2]));
                due(1, ruleOf(x, 1, 1, 1, in[0], in[1], in[2], out[0], out[1], out[2]));
                due(2, ruleOf(x, 1, 1, 1, 2, 2, 2, in[0], in[1], in[2], out[0], out[1], out[2]));
                due(3, ruleOf(x, in[0], in[1], in[2], 1, 1, 1, 2, 2, 2, out[0], out[1], out[2]));
                due(BAD, ruleOf(x, in[0], in[1], in[2], out[0] * 8, out[1] * 8, out[2] * 8));
                due(BAD, ruleOf(x, 1, 1, 1, out[0], out[1], out[2]));
                due(4, x.rules());
            }
        }
        Keeper x = new Keeper();
        due(0, ruleOf(x, 0, 0, 0, 1, 1, 1));
        due(1, ruleOf(x, -1, -2, -3, -3, -2, -1));
        due(2, ruleOf(x, -1, 0, 0, 0, -2, 0, 0, 0, -3, -1, -2, -3));
    }

    private static void termsOfCases() {
        test("A CASE of a rule is a number for each of its variables", BoundaryTests::casesAreNumbers);
        test("A CASE of a rule is a number for each of its variables: in whichever places they stand",
                BoundaryTests::casesInAllPlaces);
        test("such that each pattern of the body becomes a triple that HOLDS", BoundaryTests::eachPatternHolds);
        test("its head becomes a triple, which then holds, too", BoundaryTests::headHoldsToo);
        test("What holds is the least set of triples", BoundaryTests::leastSet);
        test("in which are all that were SAID, and all that the cases of all rules give",
                BoundaryTests::allSaidAndAllGiven);
        test("SUPPORT of a triple is how many cases (of all rules) give it", BoundaryTests::casesOfAllRules);
        test("SUPPORT of a triple is how many cases: the most there can be", BoundaryTests::mostCases);
    }

    private static void casesAreNumbers() {
        Keeper x = new Keeper();
        due(0, ruleOf(x, 1, 1, 1, 20, 20, 20));
        due(1, ruleOf(x, -1, -1, -1, 21, 21, 21));
        due(2, ruleOf(x, -1, 1, -2, -1, 1, -2, 22, 22, 22));
        due(3, ruleOf(x, -1, 1, -2, -3, 1, -4, 23, 23, 23));
        due(0, x.support(20, 20, 20));
        due(1, x.say(1, 1, 1));
        due(1, x.say(1, 1, 2));
        due(1, x.say(0, 1, 31));
        due(1, x.support(20, 20, 20));
        // One case for 1, and one for each of 20 .. 23, which hold by now.
        due(5, x.support(21, 21, 21));
        due(3, x.support(22, 22, 22));
        due(9, x.support(23, 23, 23));
        due(7, x.size());
    }

    private static void casesInAllPlaces() {
        for (int free = 0; free < 3; free++) {
            pairsBesides(free);
        }
    }

    /** All pairs of some numbers, in the two places besides the free one, are told apart. */
    private static void pairsBesides(int free) {
        int[] numbers = {0, 1, 2, 3, 4, 8, 16, 31};
        Keeper x = new Keeper();
        for (int u : numbers) {
            for (int v : numbers) {
                int[] t = placed(free, 0, u, v);
                due(1, x.say(t[0], t[1], t[2]));
            }
        }
        int[] one = placed(free, -1, -2, -3);
        int[] other = placed(free, -4, -2, -3);
        int[] head = placed(free, 20, -2, -3);
        due(0, ruleOf(x, 9, 9, 9, one[0], one[1], one[2], head[0], head[1], head[2]));
        due(64, x.size());
        due(1, ruleOf(x, one[0], one[1], one[2], other[0], other[1], other[2], 21, 21, 21));
        // A case for each pair: those of the 64, and (21, 21), which stands in the head itself.
        due(65, x.support(21, 21, 21));
        due(1, x.say(9, 9, 9));
        // Each of the 66 pairs, (9, 9) being one, now has two triples: four cases each.
        due(66 * 2, x.size());
        due(66 * 4, x.support(21, 21, 21));
        for (int u : numbers) {
            int[] t = placed(free, 20, u, 31 - u);
            boolean isPair = u == 0 || u == 31;
            due(isPair ? 2 : 0, x.holds(t[0], t[1], t[2]));
            due(isPair ? 2 : 0, x.support(t[0], t[1], t[2]));
        }
    }

    private static int[] placed(int free, int atFree, int u, int v) {
        return free == 0 ? new int[] {atFree, u, v} : free == 1 ? new int[] {u, atFree, v} : new int[] {u, v, atFree};
    }

    private static void eachPatternHolds() {
        for (int missing = 0; missing < 3; missing++) {
            Keeper x = new Keeper();
            due(0, ruleOf(x, -1, 0, -2, -2, 1, -3, -3, 2, -1, -1, -2, -3));
            for (int i = 0; i < 3; i++) {
                due(1, x.say(5 + i, i, 5 + (i + 1) % 3));
            }
            due(2, x.holds(5, 6, 7));
            due(1, x.unsay(5 + missing, missing, 5 + (missing + 1) % 3));
            due(0, x.holds(5, 6, 7));
            due(0, x.support(5, 6, 7));
            // Triples of the same pattern whose numbers differ from the others' make no case.
            due(1, x.say(5 + missing, missing, 5 + missing));
            due(1, x.say(5 + missing, missing, 9));
            due(1, x.say(9, missing, 5 + (missing + 1) % 3));
            due(0, x.support(5, 6, 7));
            due(5, x.size());
            // Nor when another one, that agrees with each of them, is the last to come.
            for (int i = 0; i < 3; i++) {
                if (i != missing) {
                    due(1, x.unsay(5 + i, i, 5 + (i + 1) % 3));
                    due(1, x.say(5 + i, i, 5 + (i + 1) % 3));
                    due(5, x.size());
                }
            }
        }
        Keeper x = new Keeper();
        due(0, ruleOf(x, 1, -1, -2, 2, -1, -2));
        due(1, ruleOf(x, 2, -1, -2, 3, -1, -2));
        due(1, x.say(1, 8, 9));
        due(2, x.holds(3, 8, 9));
    }

    private static void headHoldsToo() {
        Keeper x = new Keeper();
        due(1, x.say(0, 31, 0));
        due(0, ruleOf(x, -1, -2, -1, -2, -1, -2));
        due(2, x.holds(31, 0, 31));
        due(1, x.support(0, 31, 0));
        due(1, ruleOf(x, -8, 0, -8, -8, -8, -8));
        due(2, x.holds(31, 31, 31));
        due(3, x.size());
        due(3, x.fitting(-1, -2, -3));
    }

    private static void leastSet() {
        Keeper x = new Keeper();
        due(0, ruleOf(x, -1, -2, -3, -1, -2, -3));
        due(1, ruleOf(x, 1, 1, 1, 2, 2, 2));
        due(2, ruleOf(x, 2, 2, 2, 3, 3, 3));
        due(3, ruleOf(x, 3, 3, 3, 1, 1, 1));
        due(0, x.size());
        due(0, x.support(1, 1, 1));
        due(1, x.say(2, 2, 2));
        due(3, x.size());
        due(2, x.support(2, 2, 2));
        due(1, x.unsay(2, 2, 2));
        due(0, x.size());
        due(1, x.say(1, 1, 1));
        due(3, x.unrule(0));
        due(2, x.unrule(0));
        due(1, x.holds(1, 1, 1));
        due(1, x.size());
    }

    private static void allSaidAndAllGiven() {
        Keeper x = paths(24);
        due(MOST_TRIPLES, x.size());
        for (int i = 0; i < 24; i++) {
            due(1, x.holds(i, 0, i + 1));
            if (i < 23) {
                due(2, x.holds(i, 0, 24));
                due(2, x.holds(0, 0, i + 2));
            }
            due(0, x.holds(i + 1, 0, i));
        }
        Keeper y = new Keeper();
        for (int k = 0; k < MOST_RULES; k++) {
            due(k, ruleOf(y, 0, 0, -1, k + 1, k + 1, -1));
        }
        due(1, y.say(0, 0, 31));
        for (int k = 0; k < MOST_RULES; k++) {
            due(2, y.holds(k + 1, k + 1, 31));
        }
        due(1 + MOST_RULES, y.size());
        oneSayGivesAll();
    }

    /** 256 triples, each from the one before it, follow one after the other from a single one. */
    private static void oneSayGivesAll() {
        Keeper x = new Keeper();
        for (int i = 0; i < 31; i++) {
            due(1, x.say(i, 1, i + 1));
        }
        for (int i = 0; i < 7; i++) {
            due(1, x.say(i, 3, i + 1));
        }
        due(0, ruleOf(x, -1, 2, -2, -2, 1, -3, -1, 2, -3));
        due(1, ruleOf(x, -1, 2, 31, -1, 3, -2, -2, 2, 0));
        due(38, x.size());
        due(1, x.say(0, 2, 0));
        due(38 + 256, x.size());
        due(2, x.holds(7, 2, 31));
        due(1, x.unsay(0, 2, 0));
        due(38, x.size());
        due(1, x.say(7, 2, 31));
        due(39, x.size());
    }

    private static void casesOfAllRules() {
        Keeper x = new Keeper();
        due(1, x.say(1, 0, 2));
        due(0, x.support(1, 0, 2));
        for (int k = 0; k < MOST_RULES; k++) {
            due(k, ruleOf(x, -1, 0, -2, 5, 5, 5));
            due(k + 1, x.support(5, 5, 5));
        }
        due(1, x.say(1, 0, 3));
        due(24, x.support(5, 5, 5));
        due(1, x.say(5, 5, 5));
        due(24, x.support(5, 5, 5));
        due(11, x.unrule(0));
        due(22, x.support(5, 5, 5));
        due(1, x.unsay(1, 0, 2));
        due(11, x.support(5, 5, 5));
        due(1, x.unsay(1, 0, 3));
        due(0, x.support(5, 5, 5));
        due(1, x.holds(5, 5, 5));
    }

    private static void mostCases() {
        Keeper x = said(MOST_TRIPLES);
        for (int k = 0; k < MOST_RULES; k++) {
            due(k, ruleOf(x, -1, -2, -3, -4, -5, -6, -7, -8, 0, 0, 0, 0));
        }
        due(12 * 300 * 300 * 300, x.support(0, 0, 0));
        due(0, x.support(0, 0, 1));
        due(1, x.unsay(0, 1, 0));
        due(12 * 299 * 299 * 299, x.support(0, 0, 0));
    }

    private static void termsOfTheLimit() {
        test("At most 300 triples hold: by saying", BoundaryTests::limitBySaying);
        test("At most 300 triples hold: by what follows from a say", BoundaryTests::limitByFollowing);
        test("At most 300 triples hold: by a rule", BoundaryTests::limitByRule);
        test("what would make more of them is FULL, and changes nothing: say", BoundaryTests::fullSayChangesNothing);
        test("what would make more of them is FULL, and changes nothing: rule", BoundaryTests::fullRuleChangesNothing);
        test("what would make more of them is FULL: what makes no more is not", BoundaryTests::noMoreIsNotFull);
    }

    private static void limitBySaying() {
        Keeper x = said(299);
        due(1, x.say(31, 31, 31));
        due(MOST_TRIPLES, x.size());
        due(FULL, x.say(31, 31, 30));
        due(MOST_TRIPLES, x.size());
        due(1, x.unsay(31, 31, 31));
        due(1, x.say(31, 31, 30));
        due(FULL, x.say(31, 31, 31));
    }

    private static void limitByFollowing() {
        Keeper x = paths(23);
        due(276, x.size());
        due(1, x.say(23, 0, 24));
        due(MOST_TRIPLES, x.size());
        Keeper y = paths(23);
        due(1, y.say(31, 31, 31));
        due(FULL, y.say(23, 0, 24));
        due(277, y.size());
        due(1, y.unsay(31, 31, 31));
        due(1, y.say(23, 0, 24));
        due(MOST_TRIPLES, y.size());
    }

    private static void limitByRule() {
        Keeper x = new Keeper();
        sayChain(x, 24);
        draftOfPaths(x);
        due(0, x.rule());
        due(MOST_TRIPLES, x.size());
        Keeper y = new Keeper();
        sayChain(y, 24);
        due(1, y.say(31, 31, 31));
        draftOfPaths(y);
        due(FULL, y.rule());
        due(25, y.size());
        due(1, y.unsay(31, 31, 31));
        due(0, y.rule());
        due(MOST_TRIPLES, y.size());
    }

    private static void fullSayChangesNothing() {
        changesNothing(BoundaryTests::full, x -> due(FULL, x.say(31, 31, 31)));
        changesNothing(BoundaryTests::full, x -> due(FULL, x.say(24, 0, 25)));
        changesNothing(() -> paths(22), x -> due(FULL, x.say(22, 0, 0)));
        Keeper x = full();
        due(FULL, x.say(31, 31, 31));
        due(0, x.holds(31, 31, 31));
        due(0, x.unsay(31, 31, 31));
        due(FULL, x.say(24, 0, 25));
        due(1, x.unsay(0, 0, 1));
        due(0, x.holds(31, 31, 31));
        due(0, x.holds(24, 0, 25));
        due(0, x.holds(23, 0, 25));
        due(276, x.size());
    }

    private static void fullRuleChangesNothing() {
        State full = () -> {
            Keeper x = full();
            draft(x, -1, 0, -2, -2, 1, -1);
            return x;
        };
        changesNothing(full, x -> due(FULL, x.rule()));
        State half = () -> {
            Keeper x = paths(20);
            due(1, ruleOf(x, -1, 2, -2, -1, 3, -2));
            draft(x, -1, 0, -2, -2, 2, -1);
            return x;
        };
        changesNothing(half, x -> due(FULL, x.rule()));
    }

    private static void noMoreIsNotFull() {
        Keeper x = full();
        due(1, x.say(0, 0, 24));
        due(0, x.say(0, 0, 24));
        due(1, ruleOf(x, -1, 0, -2, -2, 0, -3, -3, 0, -4, -1, 0, -4));
        due(2, ruleOf(x, -1, 7, -2, -2, 7, -1));
        due(FULL, x.say(1, 7, 2));
        due(MOST_TRIPLES, x.size());
        due(1, x.unsay(0, 0, 24));
        due(2, x.unrule(2));
        due(MOST_TRIPLES, x.size());
    }

    // The promises

    private static void promise1() {
        test("RuleKeeper(): Nothing holds", BoundaryTests::nothingHolds);
        test("RuleKeeper(): no rules", BoundaryTests::noRules);
        test("RuleKeeper(): no patterns of a rule that is made", BoundaryTests::noPatterns);
    }

    private static void nothingHolds() {
        Keeper other = full();
        Keeper x = new Keeper();
        due(0, x.size());
        due(NO, x.next(LEAST));
        due(NO, x.next(-1));
        due(0, x.fitting(-1, -2, -3));
        due(0, x.holds(0, 0, 0));
        due(0, x.holds(31, 31, 31));
        due(0, x.support(0, 0, 0));
        due(0, x.unsay(0, 0, 0));
        due(0, x.clear());
        due(MOST_TRIPLES, other.size());
    }

    private static void noRules() {
        Keeper other = twelveRules();
        Keeper x = new Keeper();
        due(0, x.rules());
        due(BAD, x.unrule(0));
        due(1, x.say(0, 0, 0));
        due(1, x.size());
        due(0, x.support(0, 0, 0));
        due(0, ruleOf(x, -1, 0, -2, -2, 1, -1));
        due(MOST_RULES, other.rules());
    }

    private static void noPatterns() {
        Keeper other = new Keeper();
        draft(other, 1, 1, 1, 2, 2, 2);
        Keeper x = new Keeper();
        due(BAD, x.rule());
        due(1, new Keeper().pattern(0, 0, 0));
        due(1, x.pattern(0, 0, 0));
        due(3, other.pattern(3, 3, 3));
    }

    private static void promise2() {
        test("say: A triple is said: 1", BoundaryTests::saysOne);
        test("say: 0 when it was already", BoundaryTests::saysAgain);
        test("say: BAD", () -> changesNothing(BoundaryTests::pathsAndDraft, x -> refuses(x::say, NO_NUMBERS)));
        test("say: FULL", BoundaryTests::saysTooMuch);
    }

    private static void saysOne() {
        Keeper x = new Keeper();
        for (int corner = 0; corner < 8; corner++) {
            due(1, x.say((corner & 1) * 31, (corner >> 1 & 1) * 31, (corner >> 2) * 31));
            due(1, x.holds((corner & 1) * 31, (corner >> 1 & 1) * 31, (corner >> 2) * 31));
            due(corner + 1, x.size());
        }
        Keeper y = paths(2);
        due(2, y.holds(0, 0, 2));
        due(1, y.say(0, 0, 2));
        due(1, y.holds(0, 0, 2));
        due(3, y.size());
    }

    private static void saysAgain() {
        Keeper x = new Keeper();
        due(1, x.say(3, 2, 1));
        due(0, x.say(3, 2, 1));
        due(0, x.say(3, 2, 1));
        due(1, x.size());
        due(1, x.unsay(3, 2, 1));
        due(0, x.holds(3, 2, 1));
        due(1, x.say(3, 2, 1));
        due(1, x.clear());
        due(1, x.say(3, 2, 1));
        changesNothing(BoundaryTests::full, y -> due(0, y.say(23, 0, 24)));
    }

    private static void saysTooMuch() {
        Keeper x = full();
        due(FULL, x.say(24, 0, 24));
        due(FULL, x.say(24, 0, 24));
        due(0, x.holds(24, 0, 24));
        due(BAD, x.say(24, 0, 32));
        due(24, x.clear());
        due(1, x.say(24, 0, 24));
    }

    private static void promise3() {
        test("unsay: A triple is said no more: 1", BoundaryTests::unsaysOne);
        test("unsay: 0 when it was not", BoundaryTests::unsaysNone);
        test("unsay: BAD", () -> changesNothing(BoundaryTests::pathsAndDraft, x -> refuses(x::unsay, NO_NUMBERS)));
    }

    private static void unsaysOne() {
        Keeper x = full();
        due(1, x.unsay(0, 0, 1));
        due(0, x.holds(0, 0, 1));
        due(276, x.size());
        due(1, x.unsay(23, 0, 24));
        due(253, x.size());
        due(22, x.clear());
        Keeper y = paths(2);
        due(1, y.say(0, 0, 2));
        due(1, y.unsay(0, 0, 2));
        due(2, y.holds(0, 0, 2));
        due(1, y.say(0, 0, 2));
        due(1, y.unsay(1, 0, 2));
        due(1, y.holds(0, 0, 2));
        due(2, y.size());
        due(2, y.clear());
    }

    private static void unsaysNone() {
        due(0, new Keeper().unsay(0, 0, 0));
        changesNothing(BoundaryTests::pathsAndDraft, x -> {
            due(0, x.unsay(31, 31, 31));
            due(0, x.unsay(0, 0, 10));
        });
        changesNothing(BoundaryTests::full, x -> {
            due(FULL, x.say(31, 31, 31));
            due(0, x.unsay(31, 31, 31));
        });
        Keeper x = new Keeper();
        due(1, x.say(1, 1, 1));
        due(1, x.unsay(1, 1, 1));
        due(0, x.unsay(1, 1, 1));
        due(1, x.say(2, 2, 2));
        due(1, x.clear());
        due(0, x.unsay(2, 2, 2));
    }

    private static void promise4() {
        test("pattern: The rule that is made has a pattern more: how many", BoundaryTests::patternsCount);
        test("pattern: BAD when an item is none",
                () -> changesNothing(BoundaryTests::pathsAndDraft, x -> refuses(x::pattern, NO_ITEMS)));
        test("pattern: FULL when it has 4", BoundaryTests::patternsFull);
    }

    private static void patternsCount() {
        Keeper x = new Keeper();
        for (int many = 1; many <= 4; many++) {
            due(many, x.pattern(-8, 31, 0));
        }
        due(0, x.rules());
        due(0, x.rule());
        due(1, x.pattern(-1, -1, -1));
        due(2, x.pattern(-1, -1, -1));
        due(1, x.rule());
        due(1, x.pattern(31, 31, 31));
    }

    private static void patternsFull() {
        State four = () -> {
            Keeper x = paths(3);
            draft(x, -1, 0, -2, -2, 0, -3, -3, 0, -4, -4, 9, -1);
            return x;
        };
        changesNothing(four, x -> {
            due(FULL, x.pattern(1, 1, 1));
            due(FULL, x.pattern(-8, -8, -8));
        });
        Keeper x = four.make();
        due(FULL, x.pattern(7, 7, 7));
        due(BAD, x.pattern(7, 7, 32));
        due(1, x.rule());
        due(2, x.holds(3, 9, 0));
        due(0, x.holds(7, 7, 7));
        due(1, x.pattern(7, 7, 7));
    }

    private static void promise5() {
        test("rule: The patterns, the last one as head, are a rule: its number", BoundaryTests::rulesAreNumbered);
        test("rule: it has none again then", BoundaryTests::madeRuleLeavesNone);
        test("rule: BAD when these are less than 2 (they go then)", BoundaryTests::lessThanTwo);
        test("rule: BAD when a variable of the last one stands in no other one (they go then)",
                BoundaryTests::variableOfTheHeadAlone);
        test("rule: FULL when there are 12 rules (they stay)", BoundaryTests::twelveRulesAreFull);
        test("rule: FULL as told above (they stay)", BoundaryTests::tooMuchIsFull);
    }

    private static void rulesAreNumbered() {
        Keeper x = new Keeper();
        due(1, x.say(1, 2, 3));
        due(0, ruleOf(x, 1, 2, 3, 4, 5, 6));
        due(1, x.support(4, 5, 6));
        due(1, ruleOf(x, 4, 5, 6, 1, 2, 3, 7, 8, 9));
        due(1, x.support(7, 8, 9));
        due(2, ruleOf(x, 7, 8, 9, 4, 5, 6, 1, 2, 3, 10, 11, 12));
        due(1, x.support(10, 11, 12));
        due(4, x.size());
        due(2, x.unrule(0));
        due(2, ruleOf(x, 1, 2, 3, 4, 5, 6));
        due(4, x.size());
    }

    private static void madeRuleLeavesNone() {
        for (int body = 1; body <= 3; body++) {
            Keeper x = new Keeper();
            for (int i = 0; i <= body; i++) {
                due(i + 1, x.pattern(i, i, i));
            }
            due(0, x.rule());
            due(BAD, x.rule());
            due(1, x.rules());
            due(1, x.pattern(9, 9, 9));
            due(BAD, x.rule());
        }
    }

    private static void lessThanTwo() {
        Keeper x = new Keeper();
        due(BAD, x.rule());
        due(BAD, x.rule());
        due(1, x.pattern(1, 1, 1));
        due(BAD, x.rule());
        due(1, x.pattern(-1, -1, -1));
        due(BAD, x.rule());
        due(0, x.rules());
        due(1, x.pattern(1, 1, 1));
        due(2, x.pattern(2, 2, 2));
        due(0, x.rule());
        Keeper y = twelveRules();
        due(BAD, y.rule());
        due(1, y.pattern(1, 1, 1));
        due(BAD, y.rule());
        due(1, y.pattern(1, 1, 1));
    }

    private static void variableOfTheHeadAlone() {
        int[][] heads = {{-8, -1, -1}, {-1, -8, -1}, {-1, -1, -8}, {-8, 0, 0}, {-8, -8, -8}};
        for (int[] head : heads) {
            for (int body = 1; body <= 3; body++) {
                Keeper x = new Keeper();
                due(1, x.say(0, 0, 0));
                for (int i = 0; i < body; i++) {
                    due(i + 1, x.pattern(-1 - i, 0, -7));
                }
                due(body + 1, x.pattern(head[0], head[1], head[2]));
                due(BAD, x.rule());
                due(0, x.rules());
                due(1, x.size());
                due(1, x.pattern(-8, 0, 0));
                due(2, x.pattern(head[0], 1, head[0]));
                due(head[0] == -8 ? 0 : BAD, x.rule());
            }
        }
        Keeper y = twelveRules();
        due(BAD, ruleOf(y, -1, 0, -2, -3, 0, 0));
        due(1, y.pattern(1, 1, 1));
    }

    private static void twelveRulesAreFull() {
        State state = () -> {
            Keeper x = twelveRules();
            due(1, x.say(1, 0, 2));
            draft(x, -1, 3, -2, -2, 20, -1);
            return x;
        };
        changesNothing(state, x -> due(FULL, x.rule()));
        Keeper x = state.make();
        due(FULL, x.rule());
        due(FULL, x.rule());
        due(11, x.unrule(11));
        due(11, x.rule());
        due(2, x.fitting(-1, 3, -2) + x.fitting(-1, 20, -2));
        due(1, x.pattern(1, 1, 1));
    }

    private static void tooMuchIsFull() {
        Keeper x = full();
        draft(x, 0, 0, 1, 31, 31, 31);
        due(FULL, x.rule());
        due(FULL, x.rule());
        due(1, x.rules());
        due(0, x.holds(31, 31, 31));
        due(1, x.unsay(23, 0, 24));
        due(1, x.rule());
        due(2, x.holds(31, 31, 31));
        due(277, x.size());
        due(1, x.pattern(1, 1, 1));
    }

    private static void promise6() {
        test("unrule: Rule k goes", BoundaryTests::ruleGoes);
        test("unrule: the numbers of those behind it are one less", BoundaryTests::numbersBehindAreLess);
        test("unrule: how many are left", BoundaryTests::rulesLeft);
        test("unrule: BAD", BoundaryTests::noSuchRule);
    }

    private static void ruleGoes() {
        for (int k = 0; k < MOST_RULES; k++) {
            Keeper x = new Keeper();
            for (int i = 0; i < MOST_RULES; i++) {
                due(i, ruleOf(x, 0, 0, -1, 1, i, -1));
            }
            due(1, x.say(0, 0, 5));
            due(11, x.unrule(k));
            for (int i = 0; i < MOST_RULES; i++) {
                due(i == k ? 0 : 2, x.holds(1, i, 5));
                due(i == k ? 0 : 1, x.support(1, i, 5));
            }
            due(1, x.say(0, 0, 6));
            due(2 * MOST_RULES, x.size());
        }
    }

    private static void numbersBehindAreLess() {
        Keeper x = new Keeper();
        for (int i = 0; i < MOST_RULES; i++) {
            due(i, ruleOf(x, 0, 0, -1, 1, i, -1));
        }
        due(1, x.say(0, 0, 5));
        // 0 goes, so 1 is 0; then the last one; then the one that was 6 and is 5.
        due(11, x.unrule(0));
        due(0, x.holds(1, 0, 5));
        due(10, x.unrule(10));
        due(0, x.holds(1, 11, 5));
        due(9, x.unrule(5));
        due(0, x.holds(1, 6, 5));
        due(8, x.unrule(5));
        due(0, x.holds(1, 7, 5));
        due(2, x.holds(1, 5, 5));
        due(2, x.holds(1, 8, 5));
        due(7, x.unrule(7));
        due(0, x.holds(1, 10, 5));
        due(8, x.size());
        due(7, ruleOf(x, 0, 0, -1, 1, 30, -1));
        due(2, x.holds(1, 30, 5));
    }

    private static void rulesLeft() {
        Keeper x = twelveRules();
        for (int left = MOST_RULES - 1; left >= 0; left--) {
            due(left, x.unrule(left % 2 == 0 ? 0 : left));
            due(left, x.rules());
        }
        due(BAD, x.unrule(0));
        due(0, ruleOf(x, 1, 1, 1, 2, 2, 2));
        due(0, x.unrule(0));
    }

    private static void noSuchRule() {
        int[] wrongOnes = {-1, -2, 1, 2, 11, 12, 13, LEAST, GREATEST};
        for (int k : wrongOnes) {
            changesNothing(BoundaryTests::pathsAndDraft, x -> due(BAD, x.unrule(k)));
        }
        due(BAD, new Keeper().unrule(0));
        Keeper x = twelveRules();
        due(BAD, x.unrule(12));
        due(BAD, x.unrule(-1));
        due(11, x.unrule(11));
        due(BAD, x.unrule(11));
        due(11, x.rules());
    }

    private static void promise7() {
        test("rules: How many rules there are", BoundaryTests::countOfRules);
    }

    private static void countOfRules() {
        Keeper x = new Keeper();
        due(0, x.rules());
        due(BAD, x.rule());
        due(0, x.rules());
        draft(x, 1, 1, 1);
        due(0, x.rules());
        for (int k = 0; k < MOST_RULES; k++) {
            draft(x, 1, 1, 1, 2, 2, 2);
            due(k, x.rule());
            due(k + 1, x.rules());
        }
        due(FULL, ruleOf(x, 1, 1, 1, 2, 2, 2));
        due(MOST_RULES, x.rules());
        due(0, x.clear());
        due(MOST_RULES, x.rules());
        due(11, x.unrule(11));
        due(11, x.rules());
        Keeper y = full();
        due(FULL, ruleOf(y, 0, 0, 1, 31, 31, 31));
        due(1, y.rules());
    }

    private static void promise8() {
        test("holds: 0 when it does not hold", BoundaryTests::holdsNot);
        test("holds: 1 when it was said", BoundaryTests::holdsSaid);
        test("holds: 2 when it follows alone", BoundaryTests::holdsAlone);
        test("holds: BAD", () -> changesNothing(BoundaryTests::pathsAndDraft, x -> refuses(x::holds, NO_NUMBERS)));
    }

    private static void holdsNot() {
        Keeper x = full();
        due(0, x.holds(24, 0, 25));
        due(0, x.holds(31, 31, 31));
        due(FULL, x.say(31, 31, 31));
        due(0, x.holds(31, 31, 31));
        due(1, x.unsay(0, 0, 1));
        due(0, x.holds(0, 0, 1));
        due(0, x.holds(0, 0, 24));
        due(0, x.unrule(0));
        due(0, x.holds(1, 0, 24));
        due(23, x.clear());
        due(0, x.holds(1, 0, 2));
    }

    private static void holdsSaid() {
        Keeper x = new Keeper();
        due(1, x.say(4, 4, 4));
        due(1, x.holds(4, 4, 4));
        due(0, ruleOf(x, -1, -1, -1, -1, -1, -1));
        due(1, x.holds(4, 4, 4));
        due(1, x.support(4, 4, 4));
        due(0, x.unrule(0));
        due(1, x.holds(4, 4, 4));
    }

    private static void holdsAlone() {
        Keeper x = paths(3);
        due(2, x.holds(0, 0, 3));
        due(1, x.say(0, 0, 3));
        due(1, x.holds(0, 0, 3));
        due(1, x.unsay(0, 0, 3));
        due(2, x.holds(0, 0, 3));
        due(1, x.unsay(1, 0, 2));
        due(0, x.holds(0, 0, 3));
    }

    private static void promise9() {
        test("support: Its SUPPORT", BoundaryTests::supportOfEach);
        test("support: BAD",
                () -> changesNothing(BoundaryTests::pathsAndDraft, x -> refuses(x::support, NO_NUMBERS)));
    }

    private static void supportOfEach() {
        Keeper x = full();
        for (int to = 1; to <= 24; to++) {
            due(to - 1, x.support(0, 0, to));
        }
        due(0, x.support(1, 0, 0));
        due(0, x.support(31, 31, 31));
        due(1, x.unsay(12, 0, 13));
        due(11, x.support(0, 0, 12));
        due(0, x.support(0, 0, 13));
        due(1, x.say(0, 0, 13));
        due(0, x.support(0, 0, 13));
        due(1, x.support(0, 0, 14));
        due(0, x.unrule(0));
        due(0, x.support(0, 0, 12));
        Keeper y = new Keeper();
        due(0, ruleOf(y, -1, 0, -1, -1, -1, -1));
        due(1, y.say(0, 0, 0));
        due(1, y.support(0, 0, 0));
        due(0, y.support(0, 0, 1));
    }

    private static void promise10() {
        test("size: How many triples hold", BoundaryTests::sizes);
    }

    private static void sizes() {
        due(0, new Keeper().size());
        Keeper x = paths(23);
        due(276, x.size());
        due(1, x.say(0, 0, 23));
        due(276, x.size());
        due(1, x.say(23, 0, 24));
        due(MOST_TRIPLES, x.size());
        due(FULL, x.say(24, 0, 25));
        due(MOST_TRIPLES, x.size());
        due(0, x.unrule(0));
        due(25, x.size());
        due(25, x.clear());
        due(0, x.size());
        Keeper y = said(MOST_TRIPLES);
        due(MOST_TRIPLES, y.size());
    }

    private static void promise11() {
        test("next: The least CODE above n of a triple that holds", BoundaryTests::leastAbove);
        test("next: NO when there is none", BoundaryTests::noneAbove);
    }

    private static void leastAbove() {
        Keeper x = new Keeper();
        due(1, x.say(31, 31, 31));
        due(1, x.say(0, 0, 0));
        due(1, x.say(15, 31, 31));
        due(1, x.say(16, 0, 0));
        int[][] asked = {{LEAST, 0}, {-2, 0}, {-1, 0}, {0, 16383}, {1, 16383}, {16382, 16383}, {16383, 16384},
            {16384, 32767}, {32766, 32767}};
        for (int[] pair : asked) {
            due(pair[1], x.next(pair[0]));
        }
        due(1, x.unsay(0, 0, 0));
        due(16383, x.next(LEAST));
        due(0, ruleOf(x, 31, 31, 31, 0, 0, 1));
        due(1, x.next(-1));
        due(1, x.next(0));
        due(16383, x.next(1));
        // All 300, one after the other, whatever the order in which they came to hold.
        Keeper y = full();
        int code = -1;
        for (int a = 0; a < 24; a++) {
            for (int c = a + 1; c <= 24; c++) {
                code = y.next(code);
                due(1024 * a + c, code);
            }
        }
        due(NO, y.next(code));
    }

    private static void noneAbove() {
        due(NO, new Keeper().next(LEAST));
        due(NO, new Keeper().next(-3));
        Keeper x = new Keeper();
        due(1, x.say(31, 31, 31));
        due(NO, x.next(32767));
        due(NO, x.next(32768));
        due(NO, x.next(GREATEST - 1));
        due(NO, x.next(GREATEST));
        due(1, x.unsay(31, 31, 31));
        due(NO, x.next(-1));
        due(1, x.say(0, 0, 0));
        due(NO, x.next(0));
        due(0, x.next(NO));
    }

    private static void promise12() {
        test("fitting: How many triples that hold fit a pattern", BoundaryTests::howManyFit);
        test("fitting: a variable that stands more than once is one number", BoundaryTests::oneNumber);
        test("fitting: BAD", () -> changesNothing(BoundaryTests::pathsAndDraft, x -> refuses(x::fitting, NO_ITEMS)));
    }

    private static void howManyFit() {
        due(0, new Keeper().fitting(-1, -2, -3));
        Keeper x = full();
        due(MOST_TRIPLES, x.fitting(-1, -2, -3));
        due(MOST_TRIPLES, x.fitting(-8, 0, -1));
        due(0, x.fitting(-1, 1, -2));
        due(24, x.fitting(0, -1, -2));
        due(24, x.fitting(-1, -2, 24));
        due(0, x.fitting(24, -1, -2));
        due(1, x.fitting(0, -1, 24));
        due(1, x.fitting(0, 0, 24));
        due(0, x.fitting(0, 31, 24));
        due(1, x.unsay(0, 0, 1));
        due(276, x.fitting(-1, -2, -3));
        changesNothing(BoundaryTests::pathsAndDraft, y -> {
            due(55, y.fitting(-1, -2, -3));
            due(10, y.fitting(-1, -1, -2));
        });
    }

    private static void oneNumber() {
        Keeper x = new Keeper();
        for (int code = 0; code < 8; code++) {
            due(1, x.say((code >> 2) * 31, (code >> 1 & 1) * 31, (code & 1) * 31));
        }
        for (int v = -8; v <= -1; v++) {
            int w = v == -8 ? -1 : v - 1;
            due(4, x.fitting(v, v, w));
            due(4, x.fitting(v, w, v));
            due(4, x.fitting(w, v, v));
            due(2, x.fitting(v, v, v));
            due(2, x.fitting(v, v, 31));
            due(2, x.fitting(v, 0, v));
            due(2, x.fitting(31, v, v));
        }
        due(8, x.fitting(-1, -2, -3));
    }

    private static void promise13() {
        test("clear: All that were said are said no more", BoundaryTests::saidNoMore);
        test("clear: how many were", BoundaryTests::howManyWere);
    }

    private static void saidNoMore() {
        Keeper x = full();
        draft(x, -1, 0, -2, -2, 5, -1);
        due(24, x.clear());
        due(0, x.size());
        due(NO, x.next(-1));
        due(0, x.holds(0, 0, 1));
        due(0, x.holds(0, 0, 24));
        due(0, x.support(0, 0, 24));
        due(0, x.fitting(-1, -2, -3));
        due(0, x.unsay(0, 0, 1));
        due(1, x.rules());
        due(1, x.rule());
        due(1, x.say(0, 0, 1));
        due(1, x.say(1, 0, 2));
        due(6, x.size());
        due(2, x.holds(2, 5, 0));
    }

    private static void howManyWere() {
        due(0, new Keeper().clear());
        Keeper x = said(MOST_TRIPLES);
        due(FULL, x.say(31, 31, 31));
        due(MOST_TRIPLES, x.clear());
        due(0, x.clear());
        Keeper y = paths(4);
        due(1, y.say(0, 0, 4));
        due(0, y.say(0, 0, 4));
        due(BAD, y.say(0, 0, 32));
        due(1, y.unsay(3, 0, 4));
        due(1, y.holds(0, 0, 4));
        due(4, y.clear());
        due(0, y.clear());
    }
}
