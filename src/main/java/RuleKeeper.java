/**
 * Rules over triples: some triples are said, others follow from what holds; what follows, and in
 * how many ways, is kept as triples and rules come and go.
 *
 * What holds is kept at all times, as a row in the order in which the triples came to hold. A new
 * triple or a new rule only adds to that row, so a change that turns out to be FULL is taken back by
 * cutting the row. When a triple or a rule goes, the row is made again from what is said, since
 * triples that follow from one another in a circle must not keep each other alive.
 */
public final class RuleKeeper {
    public static final int BAD = -1;
    public static final int NO = -2;
    public static final int FULL = -3;

    private static final int NUMBERS = 32;
    private static final int NUMBER_BITS = 5;
    private static final int NUMBER_MASK = NUMBERS - 1;
    private static final int ITEMS = 3;
    private static final int[] SHIFTS = {10, 5, 0};
    private static final int FIRST_SHIFT = 10;
    private static final int ALL_ITEMS_MASK = NUMBERS * NUMBERS * NUMBERS - 1;
    private static final int PAIRS = NUMBERS * NUMBERS;
    private static final int VARIABLES = 8;
    private static final int MOST_TRIPLES = 300;
    private static final int MOST_RULES = 12;
    private static final int MOST_PATTERNS = 4;
    private static final int MOST_IN_BODY = MOST_PATTERNS - 1;
    private static final int NOWHERE = -1;

    private final Solver solver;
    private final Triples held;
    private final Marks said;
    private final Rule[] made;
    private final Pattern[] draft;
    private int madeCount;
    private int draftCount;

    public RuleKeeper() {
        solver = new Solver();
        held = solver.held;
        said = new Marks();
        draft = new Pattern[MOST_PATTERNS];
        made = new Rule[MOST_RULES];
        madeCount = 0;
        draftCount = 0;
        // The rows hold a blank where nothing stands yet, so that none of their places is ever null.
        Pattern blank = new Pattern(0, 0, 0);
        for (int i = 0; i < MOST_PATTERNS; i++) {
            draft[i] = blank;
        }
        Rule blankRule = new Rule(new Pattern[] {blank}, blank);
        for (int k = 0; k < MOST_RULES; k++) {
            made[k] = blankRule;
        }
    }

    public int say(int a, int b, int c) {
        if (!isTriple(a, b, c)) {
            return BAD;
        }
        int code = codeOf(a, b, c);
        if (said.has(code)) {
            return 0;
        }
        if (!held.has(code) && !hold(code)) {
            return FULL;
        }
        said.put(code);
        return 1;
    }

    public int unsay(int a, int b, int c) {
        if (!isTriple(a, b, c)) {
            return BAD;
        }
        int code = codeOf(a, b, c);
        if (!said.has(code)) {
            return 0;
        }
        said.drop(code);
        holdAnew();
        return 1;
    }

    public int pattern(int a, int b, int c) {
        if (!isPattern(a, b, c)) {
            return BAD;
        }
        if (draftCount >= MOST_PATTERNS) {
            return FULL;
        }
        draft[draftCount] = new Pattern(a, b, c);
        draftCount++;
        return draftCount;
    }

    public int rule() {
        if (!draftIsRule()) {
            draftCount = 0;
            return BAD;
        }
        if (madeCount >= MOST_RULES) {
            return FULL;
        }
        int before = held.count;
        made[madeCount] = ruleOfDraft();
        madeCount++;
        if (!follow(0, before)) {
            held.cutTo(before);
            madeCount--;
            return FULL;
        }
        draftCount = 0;
        return madeCount - 1;
    }

    public int unrule(int k) {
        if (k < 0 || k >= madeCount) {
            return BAD;
        }
        for (int i = k + 1; i < madeCount; i++) {
            made[i - 1] = made[i];
        }
        madeCount--;
        holdAnew();
        return madeCount;
    }

    public int rules() {
        return madeCount;
    }

    public int holds(int a, int b, int c) {
        if (!isTriple(a, b, c)) {
            return BAD;
        }
        int code = codeOf(a, b, c);
        if (said.has(code)) {
            return 1;
        }
        return held.has(code) ? 2 : 0;
    }

    public int support(int a, int b, int c) {
        if (!isTriple(a, b, c)) {
            return BAD;
        }
        int code = codeOf(a, b, c);
        int sum = 0;
        for (int k = 0; k < madeCount; k++) {
            sum += solver.casesGiving(made[k], code);
        }
        return sum;
    }

    public int size() {
        return held.count;
    }

    public int next(int n) {
        int least = NO;
        for (int i = 0; i < held.count; i++) {
            int code = held.codes[i];
            if (code > n && (least == NO || code < least)) {
                least = code;
            }
        }
        return least;
    }

    public int fitting(int a, int b, int c) {
        if (!isPattern(a, b, c)) {
            return BAD;
        }
        Pattern asked = new Pattern(a, b, c);
        int found = 0;
        for (int i = 0; i < held.count; i++) {
            if (asked.fits(held.codes[i])) {
                found++;
            }
        }
        return found;
    }

    public int clear() {
        int were = 0;
        for (int i = 0; i < held.count; i++) {
            if (said.has(held.codes[i])) {
                said.drop(held.codes[i]);
                were++;
            }
        }
        // Each body has a pattern, so nothing follows where nothing is said.
        held.cutTo(0);
        return were;
    }

    private static boolean isNumber(int x) {
        return x >= 0 && x < NUMBERS;
    }

    private static boolean isTriple(int a, int b, int c) {
        return isNumber(a) && isNumber(b) && isNumber(c);
    }

    private static boolean isItem(int x) {
        return x >= -VARIABLES && x < NUMBERS;
    }

    private static boolean isPattern(int a, int b, int c) {
        return isItem(a) && isItem(b) && isItem(c);
    }

    private static int codeOf(int a, int b, int c) {
        return (a * NUMBERS + b) * NUMBERS + c;
    }

    private boolean draftIsRule() {
        if (draftCount < 2) {
            return false;
        }
        int last = draftCount - 1;
        int inBody = 0;
        for (int i = 0; i < last; i++) {
            inBody |= draft[i].variables;
        }
        return (draft[last].variables & ~inBody) == 0;
    }

    private Rule ruleOfDraft() {
        int last = Math.max(draftCount - 1, 0);
        Pattern[] body = new Pattern[last];
        for (int i = 0; i < last; i++) {
            body[i] = draft[i];
        }
        return new Rule(body, draft[last]);
    }

    /** Lets a triple hold, with all that follows; false, and nothing changed, when that is too much. */
    private boolean hold(int code) {
        int before = held.count;
        if (held.add(code) && follow(before, before)) {
            return true;
        }
        held.cutTo(before);
        return false;
    }

    private void holdAnew() {
        held.keepThose(said);
        // What is left is less than what held before, so this is never too much.
        follow(0, 0);
    }

    /**
     * Adds to the row what follows from its triples from place start on: those before the place
     * settled have met all rules but the newest, the others none. False when that is too much.
     */
    private boolean follow(int start, int settled) {
        for (int at = start; at < held.count && at < MOST_TRIPLES; at++) {
            int first = at < settled ? Math.max(madeCount - 1, 0) : 0;
            for (int k = first; k < madeCount; k++) {
                Rule rule = made[k];
                for (int i = 0; i < rule.body.length; i++) {
                    if (!solver.derive(rule, i, at)) {
                        return false;
                    }
                }
            }
        }
        return true;
    }

    /** A set of codes, a bit for each. */
    private static final class Marks {
        final int[] words;

        Marks() {
            words = new int[PAIRS];
        }

        boolean has(int code) {
            return (words[(code >> NUMBER_BITS) & (PAIRS - 1)] & (1 << (code & NUMBER_MASK))) != 0;
        }

        void put(int code) {
            words[(code >> NUMBER_BITS) & (PAIRS - 1)] |= 1 << (code & NUMBER_MASK);
        }

        void drop(int code) {
            words[(code >> NUMBER_BITS) & (PAIRS - 1)] &= ~(1 << (code & NUMBER_MASK));
        }
    }

    /** The triples that hold, in the order in which they came. */
    private static final class Triples {
        final int[] codes;
        final Marks present;
        int count;

        Triples() {
            codes = new int[MOST_TRIPLES];
            present = new Marks();
            count = 0;
        }

        boolean has(int code) {
            return present.has(code);
        }

        /** Puts a code that is not here at the end; false when there is no room. */
        boolean add(int code) {
            if (count >= MOST_TRIPLES) {
                return false;
            }
            codes[count] = code;
            count++;
            present.put(code);
            return true;
        }

        void cutTo(int length) {
            for (int i = Math.max(length, 0); i < count; i++) {
                present.drop(codes[i]);
            }
            count = Math.min(count, Math.max(length, 0));
        }

        void keepThose(Marks wanted) {
            int kept = 0;
            for (int i = 0; i < count; i++) {
                if (wanted.has(codes[i])) {
                    codes[kept] = codes[i];
                    kept++;
                } else {
                    present.drop(codes[i]);
                }
            }
            count = kept;
        }
    }

    /**
     * Three items. A set of variables is a mask with a bit for each; bits has, for each item, the bit
     * of its variable (0 for a number), and slots the place of its value among the values.
     */
    private static final class Pattern {
        final int[] bits;
        final int[] slots;
        final int variables;
        final int numberMask;
        final int numberCode;
        final boolean sameAB;
        final boolean sameAC;
        final boolean sameBC;

        Pattern(int a, int b, int c) {
            int[] items = {a, b, c};
            bits = new int[ITEMS];
            slots = new int[ITEMS];
            int seen = 0;
            int mask = 0;
            int code = 0;
            for (int at = 0; at < ITEMS; at++) {
                if (items[at] < 0) {
                    slots[at] = (-1 - items[at]) & (VARIABLES - 1);
                    bits[at] = 1 << slots[at];
                    seen |= bits[at];
                } else {
                    mask |= NUMBER_MASK << SHIFTS[at];
                    code |= items[at] << SHIFTS[at];
                }
            }
            variables = seen;
            numberMask = mask;
            numberCode = code;
            sameAB = a == b;
            sameAC = a == c;
            sameBC = b == c;
        }

        boolean fits(int code) {
            return (code & numberMask) == numberCode && agrees(code);
        }

        /** Whether the code has equal numbers where equal items stand. */
        boolean agrees(int code) {
            int a = code >> FIRST_SHIFT;
            int b = (code >> NUMBER_BITS) & NUMBER_MASK;
            int c = code & NUMBER_MASK;
            return (!sameAB || a == b) && (!sameAC || a == c) && (!sameBC || b == c);
        }

        /** The bits of a code where one of these variables stands. */
        int maskOf(int wanted) {
            int mask = 0;
            for (int at = 0; at < ITEMS; at++) {
                if ((bits[at] & wanted) != 0) {
                    mask |= NUMBER_MASK << SHIFTS[at];
                }
            }
            return mask;
        }

        /** The values of these variables where they stand in a code, and 0 elsewhere. */
        int filled(int wanted, int[] values) {
            int code = 0;
            for (int at = 0; at < ITEMS; at++) {
                if ((bits[at] & wanted) != 0) {
                    code |= values[slots[at]] << SHIFTS[at];
                }
            }
            return code;
        }

        /** Gives these variables the numbers that the code has in their place. */
        void bind(int code, int wanted, int[] values) {
            for (int at = 0; at < ITEMS; at++) {
                if ((bits[at] & wanted) != 0) {
                    values[slots[at]] = (code >> SHIFTS[at]) & NUMBER_MASK;
                }
            }
        }
    }

    /** A body and a head; shared has, for each pattern of the body, its variables that stand elsewhere too. */
    private static final class Rule {
        final Pattern[] body;
        final Pattern head;
        final int[] shared;

        Rule(Pattern[] body, Pattern head) {
            this.body = body;
            this.head = head;
            shared = new int[body.length];
            for (int i = 0; i < body.length; i++) {
                int elsewhere = head.variables;
                for (int j = 0; j < body.length; j++) {
                    elsewhere |= j == i ? 0 : body[j].variables;
                }
                shared[i] = body[i].variables & elsewhere;
            }
        }
    }

    /**
     * The triples that fit one pattern of a body, each cut down to the numbers of the variables that
     * matter to the rest of the rule; those that are the same then are one part, counted.
     */
    private static final class Column {
        final int[] parts;
        final int[] times;
        final int[] places;
        Pattern source;
        int kept;
        int count;

        Column() {
            parts = new int[MOST_TRIPLES];
            times = new int[MOST_TRIPLES];
            places = new int[PAIRS];
            source = new Pattern(0, 0, 0);
            kept = 0;
            count = 0;
        }

        void fill(Triples triples, int length, int bound, int[] values) {
            int mask = source.numberMask | source.maskOf(bound);
            int want = source.numberCode | source.filled(bound, values);
            int keptMask = source.maskOf(kept);
            count = 0;
            for (int i = 0; i < length && i < triples.count; i++) {
                int code = triples.codes[i];
                if ((code & mask) == want && source.agrees(code)) {
                    take(code & keptMask, placeOf(code & keptMask, keptMask), keptMask);
                }
            }
            for (int i = 0; i < count; i++) {
                places[placeOf(parts[i], keptMask)] = 0;
            }
        }

        private void take(int part, int place, int keptMask) {
            // Whole triples always differ, though two of them may meet in one place.
            int known = keptMask == ALL_ITEMS_MASK ? 0 : places[place];
            if (known > 0 && known <= count) {
                times[known - 1]++;
            } else if (count < MOST_TRIPLES) {
                parts[count] = part;
                times[count] = 1;
                count++;
                places[place] = count;
            }
        }

        /** One place for each part, as long as no more than two of its numbers are kept. */
        private static int placeOf(int part, int keptMask) {
            boolean firstIsKept = (keptMask >> FIRST_SHIFT) != 0;
            int folded = firstIsKept ? (part >> NUMBER_BITS) | (part & NUMBER_MASK) : part;
            return folded & (PAIRS - 1);
        }
    }

    /**
     * Finds the cases of a rule. It starts from one triple at one pattern, which binds that pattern's
     * variables, and joins what fits the other patterns; only variables that stand in several
     * patterns are ever looked at one by one, so that bodies of far more cases than triples stay cheap.
     */
    private static final class Solver {
        final Triples held;
        final int[] values;
        final Column[] columns;
        int columnCount;

        Solver() {
            held = new Triples();
            values = new int[VARIABLES];
            columns = new Column[MOST_IN_BODY];
            columnCount = 0;
            for (int i = 0; i < MOST_IN_BODY; i++) {
                columns[i] = new Column();
            }
        }

        /**
         * Adds the heads of the cases in which the newest triple stands at one pattern of the body, and
         * triples up to it at the others; false when they are too many.
         */
        boolean derive(Rule rule, int where, int newest) {
            Pattern here = rule.body[where];
            int code = held.codes[newest];
            if (!here.fits(code)) {
                return true;
            }
            int bound = rule.shared[where];
            here.bind(code, bound, values);
            // An earlier triple with the same numbers for the rest of the rule has given the same heads.
            if (isMatchedBefore(here, bound, newest)) {
                return true;
            }
            if (!fillColumns(rule, where, bound, newest + 1)) {
                return true;
            }
            return addJoined(this, rule, 0, bound);
        }

        int casesGiving(Rule rule, int code) {
            if (!rule.head.fits(code)) {
                return 0;
            }
            int bound = rule.head.variables;
            rule.head.bind(code, bound, values);
            if (!fillColumns(rule, NOWHERE, bound, held.count)) {
                return 0;
            }
            return countJoined(this, 0, bound);
        }

        private boolean isMatchedBefore(Pattern here, int bound, int length) {
            int mask = here.numberMask | here.maskOf(bound);
            int want = here.numberCode | here.filled(bound, values);
            for (int i = 0; i < length; i++) {
                int code = held.codes[i];
                if ((code & mask) == want && here.agrees(code)) {
                    return true;
                }
            }
            return false;
        }

        /** A column for each pattern of the body but one; false as soon as nothing fits one of them. */
        private boolean fillColumns(Rule rule, int without, int bound, int length) {
            columnCount = 0;
            for (int i = 0; i < rule.body.length && columnCount < MOST_IN_BODY; i++) {
                if (i == without) {
                    continue;
                }
                Column column = columns[columnCount];
                column.source = rule.body[i];
                column.kept = rule.shared[i] & ~bound;
                column.fill(held, length, bound, values);
                if (column.count == 0) {
                    return false;
                }
                columnCount++;
            }
            return true;
        }

        /** Joins the columns from depth on and adds each head that is new; false when there is no room. */
        private static boolean addJoined(Solver solver, Rule rule, int depth, int bound) {
            boolean headIsKnown = (rule.head.variables & ~bound) == 0;
            int code = rule.head.numberCode | rule.head.filled(bound, solver.values);
            if (headIsKnown && solver.held.has(code)) {
                return true;
            }
            if (depth >= solver.columnCount) {
                return solver.held.add(code);
            }
            Column column = solver.columns[depth];
            int mask = column.source.maskOf(column.kept & bound);
            int want = column.source.filled(column.kept & bound, solver.values);
            for (int i = 0; i < column.count; i++) {
                if ((column.parts[i] & mask) != want) {
                    continue;
                }
                column.source.bind(column.parts[i], column.kept & ~bound, solver.values);
                if (!addJoined(solver, rule, depth + 1, bound | column.kept)) {
                    return false;
                }
                if (headIsKnown && solver.held.has(code)) {
                    return true;
                }
            }
            return true;
        }

        /** Joins the columns from depth on: how many cases they make. */
        private static int countJoined(Solver solver, int depth, int bound) {
            if (depth >= solver.columnCount) {
                return 1;
            }
            Column column = solver.columns[depth];
            int mask = column.source.maskOf(column.kept & bound);
            int want = column.source.filled(column.kept & bound, solver.values);
            int sum = 0;
            for (int i = 0; i < column.count; i++) {
                if ((column.parts[i] & mask) == want) {
                    column.source.bind(column.parts[i], column.kept & ~bound, solver.values);
                    sum += column.times[i] * countJoined(solver, depth + 1, bound | column.kept);
                }
            }
            return sum;
        }
    }
}
