/** The promises of the document one by one: ordinary inputs, the edges it names, wrong inputs. */
public final class PromiseTests {
    private static final int BAD = -1;
    private static final int NO = -2;
    private static final int FULL = -3;
    private static final int[] NO_NUMBERS = {-1, -8, -9, 32, 1000, Integer.MIN_VALUE, Integer.MAX_VALUE};
    private static final int[] NO_ITEMS = {-9, 32, -1000, 1000, Integer.MIN_VALUE, Integer.MAX_VALUE};

    private static int wrong = 0;

    private static void due(String what, int got, int want) {
        if (got != want) {
            wrong++;
            System.out.println(what + " answered " + got + ", due is " + want);
        }
    }

    public static void main(String[] args) {
        newObject();
        saying();
        sayingTooMuch();
        unsaying();
        unsayingInCircles();
        patterns();
        rulesMade();
        rulesRefused();
        rulesTooMany();
        ruleTooMuch();
        ruleTooMuchHalfway();
        rulesOfWholeTriples();
        unruling();
        holding();
        supports();
        supportsOfManyCases();
        sizes();
        nexts();
        fittings();
        clearing();
        constantsOfTheFace();
        System.out.println(wrong == 0 ? "all promises are kept" : wrong + " answers are not as due");
        if (wrong != 0) {
            System.exit(1);
        }
    }

    /** Makes a rule of items, three for each pattern, the last pattern being the head. */
    private static int ruleOf(RuleKeeper x, int... items) {
        for (int i = 0; i + 2 < items.length; i += 3) {
            due("pattern " + i / 3, x.pattern(items[i], items[i + 1], items[i + 2]), i / 3 + 1);
        }
        return x.rule();
    }

    private static RuleKeeper withChain(int from, int to) {
        RuleKeeper x = new RuleKeeper();
        for (int i = from; i < to; i++) {
            due("say of a chain", x.say(i, 0, i + 1), 1);
        }
        return x;
    }

    private static RuleKeeper withSaid(int many) {
        RuleKeeper x = new RuleKeeper();
        for (int i = 0; i < many; i++) {
            due("say of many", x.say(i / 32, i % 32, 0), 1);
        }
        return x;
    }

    private static void constantsOfTheFace() {
        due("BAD", RuleKeeper.BAD, BAD);
        due("NO", RuleKeeper.NO, NO);
        due("FULL", RuleKeeper.FULL, FULL);
    }

    // Promise 1
    private static void newObject() {
        RuleKeeper x = new RuleKeeper();
        due("new size", x.size(), 0);
        due("new rules", x.rules(), 0);
        due("new next", x.next(Integer.MIN_VALUE), NO);
        due("new fitting", x.fitting(-1, -2, -3), 0);
        due("new holds", x.holds(0, 0, 0), 0);
        due("new support", x.support(0, 0, 0), 0);
        due("new clear", x.clear(), 0);
        due("new pattern", x.pattern(0, 0, 0), 1);
        RuleKeeper y = new RuleKeeper();
        due("another's rule", y.rule(), BAD);
        due("another's pattern", y.pattern(0, 0, 0), 1);
        x.say(1, 1, 1);
        due("another's size", y.size(), 0);
        due("another's holds", y.holds(1, 1, 1), 0);
    }

    // Promise 2
    private static void saying() {
        RuleKeeper x = new RuleKeeper();
        due("say least", x.say(0, 0, 0), 1);
        due("say greatest", x.say(31, 31, 31), 1);
        due("say again", x.say(31, 31, 31), 0);
        due("size said", x.size(), 2);
        for (int bad : NO_NUMBERS) {
            due("say bad a", x.say(bad, 0, 1), BAD);
            due("say bad b", x.say(0, bad, 1), BAD);
            due("say bad c", x.say(0, 1, bad), BAD);
        }
        due("size after bad", x.size(), 2);
        due("a rule", ruleOf(x, -1, 0, 0, -1, 1, 1), 0);
        due("it follows", x.holds(0, 1, 1), 2);
        due("say what follows", x.say(0, 1, 1), 1);
        due("said now", x.holds(0, 1, 1), 1);
        due("say what follows again", x.say(0, 1, 1), 0);
        due("size with what follows", x.size(), 3);
    }

    private static void sayingTooMuch() {
        RuleKeeper x = withSaid(299);
        due("a rule without cases", ruleOf(x, 20, -1, -2, 21, -1, -2), 0);
        due("say makes two", x.say(20, 0, 1), FULL);
        due("nothing of it holds", x.holds(20, 0, 1), 0);
        due("nothing follows", x.holds(21, 0, 1), 0);
        due("size 299", x.size(), 299);
        due("FULL again", x.say(20, 0, 1), FULL);
        due("say the 300th", x.say(25, 5, 5), 1);
        due("size 300", x.size(), 300);
        due("say the 301st", x.say(25, 5, 6), FULL);
        due("said already, though full", x.say(25, 5, 5), 0);
        due("bad, though full", x.say(32, 0, 0), BAD);
        due("not to be unsaid", x.unsay(25, 5, 6), 0);
        due("unsay one", x.unsay(25, 5, 5), 1);
        due("unsay another", x.unsay(0, 0, 0), 1);
        due("say makes two, and there is room", x.say(20, 0, 1), 1);
        due("size 300 again", x.size(), 300);
        due("what follows may be said though full", x.say(21, 0, 1), 1);
        due("size stays 300", x.size(), 300);
    }

    // Promise 3
    private static void unsaying() {
        RuleKeeper x = new RuleKeeper();
        due("unsay nothing", x.unsay(1, 2, 3), 0);
        for (int bad : NO_NUMBERS) {
            due("unsay bad a", x.unsay(bad, 0, 1), BAD);
            due("unsay bad b", x.unsay(0, bad, 1), BAD);
            due("unsay bad c", x.unsay(0, 1, bad), BAD);
        }
        x.say(1, 0, 2);
        due("a rule", ruleOf(x, -1, 0, -2, -2, 1, -1), 0);
        due("unsay what follows alone", x.unsay(2, 1, 1), 0);
        due("it still follows", x.holds(2, 1, 1), 2);
        x.say(2, 1, 1);
        due("unsay what is said and follows", x.unsay(2, 1, 1), 1);
        due("it follows still", x.holds(2, 1, 1), 2);
        x.say(2, 1, 1);
        due("unsay the reason", x.unsay(1, 0, 2), 1);
        due("the reason is gone", x.holds(1, 0, 2), 0);
        due("what is said stays", x.holds(2, 1, 1), 1);
        due("unsay it", x.unsay(2, 1, 1), 1);
        due("unsay it again", x.unsay(2, 1, 1), 0);
        due("nothing holds", x.size(), 0);
    }

    private static void unsayingInCircles() {
        RuleKeeper x = new RuleKeeper();
        due("to and fro", ruleOf(x, -1, 0, -2, -2, 0, -1), 0);
        x.say(3, 0, 4);
        due("both ways", x.size(), 2);
        due("each from the other", x.support(3, 0, 4), 1);
        due("unsay one way", x.unsay(3, 0, 4), 1);
        due("no circle stays", x.size(), 0);
        x.say(3, 0, 4);
        x.say(4, 0, 3);
        due("unsay one of two", x.unsay(3, 0, 4), 1);
        due("it follows from the other", x.holds(3, 0, 4), 2);
        due("unsay the other", x.unsay(4, 0, 3), 1);
        due("none stays", x.size(), 0);
    }

    // Promise 4
    private static void patterns() {
        RuleKeeper x = new RuleKeeper();
        for (int bad : NO_ITEMS) {
            due("pattern bad a", x.pattern(bad, 0, -1), BAD);
            due("pattern bad b", x.pattern(0, bad, -1), BAD);
            due("pattern bad c", x.pattern(0, -1, bad), BAD);
        }
        due("first", x.pattern(0, 31, -8), 1);
        due("bad between", x.pattern(0, 31, -9), BAD);
        due("second", x.pattern(-1, -8, -8), 2);
        due("third", x.pattern(0, 0, 0), 3);
        due("fourth", x.pattern(-1, 2, -8), 4);
        due("fifth", x.pattern(0, 0, 0), FULL);
        due("bad when full", x.pattern(0, 0, 32), BAD);
        due("the four are a rule", x.rule(), 0);
        due("first again", x.pattern(0, 0, 0), 1);
        x.say(0, 31, 9);
        x.say(0, 0, 0);
        due("not all hold", x.size(), 2);
        x.say(7, 9, 9);
        due("all hold", x.holds(7, 2, 9), 2);
    }

    // Promise 5
    private static void rulesMade() {
        RuleKeeper x = withChain(1, 5);
        due("transitive", ruleOf(x, -1, 0, -2, -2, 0, -3, -1, 0, -3), 0);
        due("of what held before", x.size(), 10);
        due("three steps", x.holds(1, 0, 4), 2);
        due("none again", x.rule(), BAD);
        due("without variables", ruleOf(x, 1, 0, 5, 9, 9, 9), 1);
        due("its head", x.holds(9, 9, 9), 2);
        due("a head of numbers alone", ruleOf(x, -1, 9, -1, 8, 8, 8), 2);
        due("its head too", x.holds(8, 8, 8), 2);
        due("a body of three", ruleOf(x, -1, 0, -2, -2, 0, -3, -3, 0, -4, -4, 5, -1), 3);
        due("its case", x.holds(4, 5, 1), 2);
        due("not its case", x.holds(3, 5, 1), 0);
        due("variables one and eight", ruleOf(x, -8, 5, -1, -1, -8, -1), 4);
        due("its case as well", x.holds(1, 4, 1), 2);
        due("a variable as the middle", ruleOf(x, 9, -3, 9, 10, -3, 10), 5);
        due("the middle", x.holds(10, 9, 10), 2);
        due("a variable twice", ruleOf(x, -1, -1, -1, -1, -1, 11), 6);
        due("nines", x.holds(9, 9, 11), 2);
        due("eights", x.holds(8, 8, 11), 2);
        due("the rules", x.rules(), 7);
    }

    private static void rulesRefused() {
        RuleKeeper x = new RuleKeeper();
        x.say(1, 1, 1);
        due("no pattern", x.rule(), BAD);
        due("one", x.pattern(1, 1, 1), 1);
        due("one pattern is no rule", x.rule(), BAD);
        due("it went", x.pattern(-1, 1, -2), 1);
        due("head", x.pattern(-1, -2, -3), 2);
        due("head has a variable of its own", x.rule(), BAD);
        due("they went", x.pattern(-1, 1, -1), 1);
        due("second", x.pattern(-2, 1, -2), 2);
        due("third", x.pattern(-3, 1, -3), 3);
        due("head of four", x.pattern(-1, -2, -4), 4);
        due("no body has it", x.rule(), BAD);
        due("no rule", x.rules(), 0);
        due("nothing follows", x.size(), 1);
        due("variables over the bodies", ruleOf(x, -1, 1, 1, 1, -2, 1, 1, 1, -3, -3, -2, -1), 0);
        due("a rule now", x.rules(), 1);
    }

    private static void rulesTooMany() {
        RuleKeeper x = new RuleKeeper();
        for (int k = 0; k < 12; k++) {
            due("rule " + k, ruleOf(x, -1, k, -2, -2, k + 1, -1), k);
        }
        due("twelve", x.rules(), 12);
        due("a thirteenth", ruleOf(x, -1, 20, -2, -1, 21, -2), FULL);
        due("its patterns stay", x.pattern(5, 5, 5), 3);
        due("still too many", x.rule(), FULL);
        due("unrule makes room", x.unrule(0), 11);
        due("a twelfth of them", x.rule(), 11);
        due("patterns are gone", x.pattern(1, 1, 1), 1);
        due("one pattern, twelve rules", x.rule(), BAD);
        due("it is gone", x.pattern(-1, 1, 1), 1);
        due("its head", x.pattern(-2, 1, 1), 2);
        due("a bad one, twelve rules", x.rule(), BAD);
        due("gone too", x.pattern(-1, 1, 1), 1);
        due("twelve again", x.rules(), 12);
    }

    private static void ruleTooMuch() {
        RuleKeeper x = withSaid(150);
        due("doubles", ruleOf(x, -1, -2, 0, -1, -2, 1), 0);
        due("300 hold", x.size(), 300);
        due("one more", ruleOf(x, 0, 0, 1, 30, 30, 30), FULL);
        due("one rule", x.rules(), 1);
        due("300 still", x.size(), 300);
        due("not the new head", x.holds(30, 30, 30), 0);
        due("support is as before", x.support(0, 0, 1), 1);
        due("FULL once more", x.rule(), FULL);
        due("unsay one", x.unsay(4, 0, 0), 1);
        due("298 hold", x.size(), 298);
        due("now there is room", x.rule(), 1);
        due("299 hold", x.size(), 299);
        due("patterns went", x.pattern(0, 0, 0), 1);
        due("they are made anew", x.rule(), BAD);
        due("a rule of what holds", ruleOf(x, -1, -2, 1, -1, -2, 0), 2);
        due("299 again", x.size(), 299);
        due("say two more", x.say(31, 31, 0), FULL);
        due("299 yet", x.size(), 299);
    }

    private static void ruleTooMuchHalfway() {
        RuleKeeper x = withSaid(160);
        due("a rule by the way", ruleOf(x, -1, -2, 1, -1, -2, 2), 0);
        due("doubles too many", ruleOf(x, -1, -2, 0, -1, -2, 1), FULL);
        due("none of its heads stays", x.size(), 160);
        due("not the first", x.holds(0, 0, 1), 0);
        due("nor what follows from it", x.holds(0, 0, 2), 0);
        due("no case", x.support(0, 0, 1), 0);
        due("the other rule stays", x.rules(), 1);
        due("its patterns stay", x.pattern(-1, -2, 3), 3);
        due("a say that follows nothing", x.say(20, 20, 0), 1);
        due("161 hold", x.size(), 161);
        due("as head of two", x.rule(), 1);
        due("the middle one is of the body now", x.size(), 161);
    }

    /** Triples of the same numbers in other places are other triples, in every pattern of a body. */
    private static void rulesOfWholeTriples() {
        RuleKeeper x = new RuleKeeper();
        due("turned", ruleOf(x, 9, 9, 9, -1, -2, -3, 20, 21, 22, -3, -1, -2), 0);
        due("there and back", ruleOf(x, -1, -2, -3, -3, -2, -1, 8, 8, 8), 1);
        x.say(0, 1, 0);
        x.say(0, 0, 1);
        x.say(20, 21, 22);
        due("one is its own way back, and so is the head", x.support(8, 8, 8), 2);
        x.say(9, 9, 9);
        due("0 1 0 turned", x.holds(0, 0, 1), 1);
        due("0 0 1 turned", x.holds(1, 0, 0), 2);
        due("20 21 22 turned", x.holds(22, 20, 21), 2);
        due("and turned again", x.holds(21, 22, 20), 2);
        due("all", x.size(), 8);
        due("0 1 0 comes from 1 0 0", x.support(0, 1, 0), 1);
        due("five ways back, and 8 8 8 turned", x.support(8, 8, 8), 6);
    }

    // Promises 6 and 7
    private static void unruling() {
        RuleKeeper x = new RuleKeeper();
        due("none to go", x.unrule(0), BAD);
        due("rule 0", ruleOf(x, -1, 0, -2, -1, 1, -2), 0);
        due("rule 1", ruleOf(x, -1, 1, -2, -1, 2, -2), 1);
        due("rule 2", ruleOf(x, -1, 2, -2, -1, 0, -2), 2);
        due("rule 3", ruleOf(x, -1, 0, -2, -1, 3, -2), 3);
        due("four rules", x.rules(), 4);
        due("unrule -1", x.unrule(-1), BAD);
        due("unrule 4", x.unrule(4), BAD);
        due("unrule least", x.unrule(Integer.MIN_VALUE), BAD);
        due("unrule greatest", x.unrule(Integer.MAX_VALUE), BAD);
        x.say(7, 1, 8);
        due("all follow", x.size(), 4);
        due("a pattern in the making", x.pattern(1, 1, 1), 1);
        due("rule 1 goes", x.unrule(1), 3);
        due("it stays", x.pattern(1, 1, 1), 2);
        due("three rules", x.rules(), 3);
        due("what followed is gone", x.size(), 1);
        x.say(7, 2, 8);
        due("what was rule 2 works", x.holds(7, 0, 8), 2);
        due("what was rule 3 works", x.holds(7, 3, 8), 2);
        due("rule 1 is the former rule 2", x.unrule(1), 2);
        due("now that is gone", x.size(), 2);
        due("the last goes", x.unrule(1), 1);
        due("rule 0 goes", x.unrule(0), 0);
        due("no rules", x.rules(), 0);
        due("no more to go", x.unrule(0), BAD);
        due("what was said stays", x.size(), 2);
        due("the making goes on", x.rule(), 0);
        due("one rule", x.rules(), 1);
    }

    // Promise 8
    private static void holding() {
        RuleKeeper x = new RuleKeeper();
        for (int bad : NO_NUMBERS) {
            due("holds bad a", x.holds(bad, 0, 1), BAD);
            due("holds bad b", x.holds(0, bad, 1), BAD);
            due("holds bad c", x.holds(0, 1, bad), BAD);
        }
        due("a rule", ruleOf(x, -1, -2, -3, -3, -2, -1), 0);
        x.say(1, 2, 3);
        due("said", x.holds(1, 2, 3), 1);
        due("follows", x.holds(3, 2, 1), 2);
        due("neither", x.holds(2, 1, 3), 0);
        x.say(4, 4, 4);
        due("said, and follows from itself", x.holds(4, 4, 4), 1);
    }

    // Promise 9
    private static void supports() {
        RuleKeeper x = new RuleKeeper();
        for (int bad : NO_NUMBERS) {
            due("support bad a", x.support(bad, 0, 1), BAD);
            due("support bad b", x.support(0, bad, 1), BAD);
            due("support bad c", x.support(0, 1, bad), BAD);
        }
        x.say(1, 0, 2);
        x.say(1, 0, 3);
        x.say(2, 0, 4);
        x.say(3, 0, 4);
        due("paths", ruleOf(x, -1, 0, -2, -2, 0, -3, -1, 1, -3), 0);
        due("two ways", x.support(1, 1, 4), 2);
        due("said alone", x.support(1, 0, 2), 0);
        due("holds not", x.support(9, 9, 9), 0);
        due("the same rule twice", ruleOf(x, -1, 0, -2, -2, 0, -3, -1, 1, -3), 1);
        due("cases of all rules", x.support(1, 1, 4), 4);
        due("with other names", ruleOf(x, -5, 0, -7, -7, 0, -8, -5, 1, -8), 2);
        due("six ways", x.support(1, 1, 4), 6);
        x.say(1, 1, 4);
        due("said too", x.support(1, 1, 4), 6);
        due("a pattern twice", ruleOf(x, -1, 0, -2, -1, 0, -2, 5, 5, 5), 3);
        due("one case for each number of its variables", x.support(5, 5, 5), 4);
        due("pairs", ruleOf(x, -1, 0, -2, -1, 0, -3, 6, 6, -1), 4);
        due("pairs of 1", x.support(6, 6, 1), 4);
        due("pairs of 2", x.support(6, 6, 2), 1);
        due("a head with a variable twice", ruleOf(x, 1, 0, -2, -2, -2, 7), 5);
        due("it gives", x.support(2, 2, 7), 1);
        due("it does not give", x.support(2, 3, 7), 0);
        due("rule 0 goes", x.unrule(0), 5);
        due("four ways", x.support(1, 1, 4), 4);
        due("unsay a step", x.unsay(2, 0, 4), 1);
        due("half of the ways", x.support(1, 1, 4), 2);
        x.say(7, 7, 7);
        due("from itself", ruleOf(x, -1, -1, -1, -1, -1, -1), 5);
        due("one way", x.support(7, 7, 7), 1);
        due("cross", ruleOf(x, -1, -1, 7, -2, 0, -3, 7, 7, 7), 6);
        due("three by three, and itself", x.support(7, 7, 7), 10);
    }

    private static void supportsOfManyCases() {
        RuleKeeper x = withSaid(300);
        for (int k = 0; k < 12; k++) {
            due("many cases", ruleOf(x, -1, -2, -3, -4, -5, -6, -7, -8, 0, 0, 0, 0), k);
        }
        due("12 times 300 cubed", x.support(0, 0, 0), 324000000);
        due("unsay the head", x.unsay(0, 0, 0), 1);
        due("it follows", x.holds(0, 0, 0), 2);
        due("ever as many", x.support(0, 0, 0), 324000000);
        due("unsay another", x.unsay(0, 1, 0), 1);
        due("12 times 299 cubed", x.support(0, 0, 0), 320770788);
    }

    // Promise 10
    private static void sizes() {
        RuleKeeper x = withChain(0, 23);
        due("23 said", x.size(), 23);
        due("transitive", ruleOf(x, -1, 0, -2, -2, 0, -3, -1, 0, -3), 0);
        due("276 hold", x.size(), 276);
        due("300 exactly", x.say(23, 0, 24), 1);
        due("300 hold", x.size(), 300);
        due("325 would", x.say(24, 0, 25), FULL);
        due("300 hold yet", x.size(), 300);
        due("cut in two", x.unsay(11, 0, 12), 1);
        due("144 hold", x.size(), 66 + 78);
        due("no rule", x.unrule(0), 0);
        due("23 again", x.size(), 23);
    }

    // Promise 11
    private static void nexts() {
        RuleKeeper x = new RuleKeeper();
        x.say(31, 31, 31);
        x.say(0, 0, 0);
        x.say(5, 6, 7);
        due("a rule", ruleOf(x, 5, -1, -2, 1, -2, -1), 0);
        due("first", x.next(-1), 0);
        due("from the least int", x.next(Integer.MIN_VALUE), 0);
        due("above 0", x.next(0), 1024 + 7 * 32 + 6);
        due("just below", x.next(1024 + 7 * 32 + 5), 1024 + 7 * 32 + 6);
        due("above what follows", x.next(1024 + 7 * 32 + 6), 5 * 1024 + 6 * 32 + 7);
        due("the greatest", x.next(5 * 1024 + 6 * 32 + 7), 32767);
        due("below the greatest", x.next(32766), 32767);
        due("none", x.next(32767), NO);
        due("none above", x.next(32768), NO);
        due("above the greatest int", x.next(Integer.MAX_VALUE), NO);
        x.unsay(0, 0, 0);
        due("0 is gone", x.next(-5), 1024 + 7 * 32 + 6);
    }

    // Promise 12
    private static void fittings() {
        RuleKeeper x = new RuleKeeper();
        for (int bad : NO_ITEMS) {
            due("fitting bad a", x.fitting(bad, 0, 1), BAD);
            due("fitting bad b", x.fitting(0, bad, 1), BAD);
            due("fitting bad c", x.fitting(0, 1, bad), BAD);
        }
        for (int i = 0; i < 3; i++) {
            for (int j = 0; j < 3; j++) {
                for (int k = 0; k < 3; k++) {
                    x.say(i, j, k);
                }
            }
        }
        due("all", x.fitting(-1, -2, -3), 27);
        due("all, other names", x.fitting(-8, -1, -7), 27);
        due("one number", x.fitting(1, -1, -2), 9);
        due("two numbers", x.fitting(1, -8, 2), 3);
        due("three numbers", x.fitting(2, 2, 0), 1);
        due("a triple that holds not", x.fitting(2, 2, 3), 0);
        due("a and b", x.fitting(-1, -1, -2), 9);
        due("a and c", x.fitting(-1, -2, -1), 9);
        due("b and c", x.fitting(-2, -1, -1), 9);
        due("a and c with a number", x.fitting(-4, 2, -4), 3);
        due("all the same", x.fitting(-3, -3, -3), 3);
        due("a rule", ruleOf(x, -1, -1, -1, -1, 30, 31), 0);
        due("what follows fits too", x.fitting(-1, 30, -2), 3);
        due("fitting makes no pattern of a rule", x.rule(), BAD);
    }

    // Promise 13
    private static void clearing() {
        RuleKeeper x = withChain(1, 5);
        due("transitive", ruleOf(x, -1, 0, -2, -2, 0, -3, -1, 0, -3), 0);
        x.say(1, 0, 3);
        due("a pattern in the making", x.pattern(-1, 0, -2), 1);
        due("ten hold", x.size(), 10);
        due("five were said", x.clear(), 5);
        due("none holds", x.size(), 0);
        due("none is next", x.next(-1), NO);
        due("none said", x.holds(1, 0, 2), 0);
        due("none follows", x.holds(1, 0, 5), 0);
        due("no cases", x.support(1, 0, 5), 0);
        due("cleared again", x.clear(), 0);
        due("the rule stays", x.rules(), 1);
        due("the making stays", x.pattern(-2, 1, -1), 2);
        due("it is a rule", x.rule(), 1);
        due("say again", x.say(1, 0, 2), 1);
        due("both rules work", x.say(2, 0, 3), 1);
        due("three and three hold", x.size(), 6);
        due("two were said", x.clear(), 2);
    }
}
