/**
 * No call throws, and each ends, for any arguments in any state: LANGUAGE.md, rule 7. This goes far
 * beyond the 512 calls that the document tells of, where the answers are free, but not the rule.
 */
public final class EndsTests {
    private static final int LEAST = Integer.MIN_VALUE;
    private static final int GREATEST = Integer.MAX_VALUE;
    /** Far beyond what the dearest test needs; what takes so long is taken for what never ends. */
    private static final long LONGEST_WAIT = 300_000;

    private static final int[] ARGUMENTS = {LEAST, LEAST + 1, -(1 << 22), -32769, -1025, -33, -32, -31, -10, -9, -8,
        -7, -1, 0, 1, 30, 31, 32, 33, 1023, 1024, 32767, 32768, 1 << 22, 1 << 27, GREATEST - 1, GREATEST};

    private static volatile String doing = "";
    private static volatile boolean failed = false;

    private interface State {
        RuleKeeper make();
    }

    public static void main(String[] args) throws InterruptedException {
        Thread tests = new Thread(EndsTests::all);
        tests.setDaemon(true);
        tests.start();
        tests.join(LONGEST_WAIT);
        if (tests.isAlive()) {
            failed = true;
            System.out.println("no end of: " + doing);
        }
        System.out.println(failed ? "a call threw or did not end" : "every call ends");
        if (failed) {
            System.exit(1);
        }
    }

    private static void all() {
        try {
            everyArgument("a new object", RuleKeeper::new);
            everyArgument("300 said", EndsTests::said);
            everyArgument("300 that follow", EndsTests::paths);
            everyArgument("12 rules", EndsTests::twelveRules);
            everyArgument("12 rules and 300 triples", EndsTests::dear);
            for (int many = 1; many <= 4; many++) {
                int patterns = many;
                everyArgument(many + " patterns", () -> withPatterns(patterns));
            }
            longUse();
            dearRules();
        } catch (Throwable thrown) {
            failed = true;
            System.out.println("thrown in: " + doing + ": " + thrown);
        }
    }

    private static RuleKeeper said() {
        RuleKeeper x = new RuleKeeper();
        for (int i = 0; i < 300; i++) {
            x.say(i % 32, i / 32, (i % 32 + i / 32) % 32);
        }
        return x;
    }

    private static RuleKeeper paths() {
        RuleKeeper x = new RuleKeeper();
        addRule(x, -1, 0, -2, -2, 0, -3, -1, 0, -3);
        for (int i = 0; i < 24; i++) {
            x.say(i, 0, i + 1);
        }
        return x;
    }

    private static RuleKeeper twelveRules() {
        RuleKeeper x = new RuleKeeper();
        for (int k = 0; k < 12; k++) {
            addRule(x, -1, k, -2, -3, k, -1, -2, k + 1, -3);
        }
        return x;
    }

    private static RuleKeeper dear() {
        RuleKeeper x = said();
        for (int k = 0; k < 12; k++) {
            addRule(x, -1, -2, -3, -3, -4, -5, -5, -6, -1, 0, 0, 0);
        }
        return x;
    }

    private static RuleKeeper withPatterns(int many) {
        RuleKeeper x = new RuleKeeper();
        for (int i = 0; i < many; i++) {
            x.pattern(-1 - i, -8, i);
        }
        return x;
    }

    private static int addRule(RuleKeeper x, int... items) {
        for (int i = 0; i + 2 < items.length; i += 3) {
            x.pattern(items[i], items[i + 1], items[i + 2]);
        }
        return x.rule();
    }

    /** Each call with each argument, and all with each pair of arguments, on one object. */
    private static void everyArgument(String name, State state) {
        for (int call = 0; call < 12; call++) {
            RuleKeeper x = state.make();
            for (int a : ARGUMENTS) {
                for (int b : ARGUMENTS) {
                    doing = name + ", call " + call + " with " + a + " and " + b;
                    make(x, call, a, b, (a ^ b) & 31);
                    make(x, call, b & 31, a, b);
                    make(x, call, a, b & 31, a);
                }
            }
            askAll(x);
        }
    }

    private static int make(RuleKeeper x, int call, int a, int b, int c) {
        switch (call) {
            case 0:
                return x.say(a, b, c);
            case 1:
                return x.unsay(a, b, c);
            case 2:
                return x.pattern(a, b, c);
            case 3:
                return x.rule();
            case 4:
                return x.unrule(a);
            case 5:
                return x.rules();
            case 6:
                return x.holds(a, b, c);
            case 7:
                return x.support(a, b, c);
            case 8:
                return x.size();
            case 9:
                return x.next(a);
            case 10:
                return x.fitting(a, b, c);
            default:
                return x.clear();
        }
    }

    /** Whatever came before, each other call can be made, and those that change something again and again. */
    private static void askAll(RuleKeeper x) {
        String before = doing;
        for (int i = 0; i < 5; i++) {
            for (int call = 0; call < 12; call++) {
                doing = before + ", then call " + call;
                make(x, call, i, i, 31 - i);
                make(x, call, -1 - i, i, -2);
            }
        }
    }

    private static void longUse() {
        RuleKeeper x = new RuleKeeper();
        int mixed = 1;
        for (int i = 0; i < 200_000; i++) {
            mixed = mixed * 1103515245 + 12345;
            int drawn = mixed >>> 8;
            int call = drawn % 12;
            doing = "long use, call " + i + " with " + drawn;
            if (call == 11 && drawn % 7 != 0) {
                continue;
            }
            int lowest = call == 2 || call == 10 ? -4 : 0;
            make(x, call, lowest + (drawn >> 4) % 9, lowest + (drawn >> 8) % 9, lowest + (drawn >> 12) % 9);
        }
    }

    /** Bodies that three hundred triples meet in as many ways as can be, or in nearly none. */
    private static void dearRules() {
        int[][] rules = {
            {-1, -2, -3, -4, -5, -6, -7, -8, -8, 31, 31, 31},
            {-1, -5, -6, -2, -3, -4, -3, -4, -2, -1, 31, 31},
            {-1, -2, -3, -3, -1, -2, -2, -3, -1, 31, 31, 31},
            {-1, -2, -3, -3, -4, -5, -5, -6, -1, 31, 31, 31},
            {-1, -2, -3, -4, -2, -5, -5, -6, -3, 31, 31, 31},
            {-1, -2, -3, -4, -5, -3, -5, -4, -6, -1, -4, -6},
        };
        for (int[] rule : rules) {
            RuleKeeper x = said();
            x.unsay(0, 0, 0);
            for (int k = 0; k < 12; k++) {
                doing = "dear rule that begins with " + rule[0] + " " + rule[1] + ", the " + k + "th";
                addRule(x, rule);
            }
            for (int i = 0; i < 20; i++) {
                x.unsay(i, 1, i + 1);
                x.support(31, 31, 31);
                x.say(i, 1, i + 1);
            }
        }
    }
}
