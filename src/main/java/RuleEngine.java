import java.util.Arrays;

/**
 * Rules over facts with not, filters and aggregates.
 *
 * A set of numbers 0 .. 31 is kept as the bits of one int all through this class, so that a part of
 * a rule takes all numbers of a variable at once. What holds is worked out anew at the first question
 * after a change, and kept until the next change.
 */
public final class RuleEngine {
    public static final int BAD = -1;
    public static final int NO = -2;
    public static final int FULL = -3;

    private static final int NAMES = 16;
    private static final int NUMBERS = 32;
    private static final int PAIRS = NUMBERS * NUMBERS;
    private static final int VARIABLES = 6;
    private static final int RULES = 16;
    private static final int PARTS = 5;

    /** What a part does: the three filters by the document's numbers, then the two kinds with a name. */
    private static final int LESS = 0;
    private static final int DIFFER = 1;
    private static final int NEXT = 2;
    private static final int PLAIN = 3;
    private static final int NOT = 4;

    private static final int NONE = -1;
    private static final int COUNT = 0;
    private static final int SUM = 1;
    private static final int LEAST = 2;
    private static final int GREATEST = 3;

    private static final int CIRCLE_BASE = -10;

    private final Facts said;
    private final Rule[] rules;
    private final Model model;
    private int ruleCount;

    public RuleEngine() {
        said = new Facts();
        model = new Model();
        rules = new Rule[RULES];
        for (int i = 0; i < RULES; i++) {
            rules[i] = new Rule();
        }
        ruleCount = 0;
    }

    public int fact(int name, int a, int b) {
        if (isBadFact(name, a, b)) {
            return BAD;
        }
        if (said.has(name, a, b)) {
            return 0;
        }
        said.add(name, a, b);
        model.stale = true;
        return 1;
    }

    public int remove(int name, int a, int b) {
        if (isBadFact(name, a, b)) {
            return BAD;
        }
        if (!said.has(name, a, b)) {
            return 0;
        }
        said.cut(name, a, b);
        model.stale = true;
        return 1;
    }

    public int rule(int name, int x, int y) {
        if (isBadName(name) || isBadItem(x) || isBadItem(y)) {
            return BAD;
        }
        if (ruleCount >= RULES) {
            return FULL;
        }
        rules[ruleCount].start(name, x, y);
        model.stale = true;
        ruleCount++;
        return ruleCount - 1;
    }

    public int body(int rule, int name, int x, int y, boolean not) {
        if (isBadName(name)) {
            return BAD;
        }
        return addPart(rule, not ? NOT : PLAIN, name, x, y);
    }

    public int filter(int rule, int does, int x, int y) {
        if (does < LESS || does > NEXT) {
            return BAD;
        }
        return addPart(rule, does, 0, x, y);
    }

    public int aggregate(int rule, int kind, int variable) {
        if (isBadRule(rule) || kind < NONE || kind > GREATEST) {
            return BAD;
        }
        if (kind != NONE && (variable < -VARIABLES || variable > -1)) {
            return BAD;
        }
        rules[rule].kind = kind;
        rules[rule].variable = variable;
        model.stale = true;
        return 1;
    }

    public int drop(int rule) {
        if (isBadRule(rule)) {
            return BAD;
        }
        Rule gone = rules[rule];
        for (int i = rule; i + 1 < ruleCount; i++) {
            rules[i] = rules[i + 1];
        }
        ruleCount--;
        // kept behind the others, so that the next new rule uses it again
        rules[ruleCount] = gone;
        model.stale = true;
        return ruleCount;
    }

    public int safe(int rule) {
        if (isBadRule(rule)) {
            return BAD;
        }
        return rules[rule].isSafe() ? 1 : 0;
    }

    public int run() {
        model.settle(said, rules, ruleCount);
        int circle = model.strata.circle;
        return circle >= 0 ? CIRCLE_BASE - circle : model.roundCount;
    }

    public int stratum(int name) {
        if (isBadName(name)) {
            return BAD;
        }
        model.settle(said, rules, ruleCount);
        return model.strata.circle >= 0 ? NO : model.strata.level[name];
    }

    public int holds(int name, int a, int b) {
        if (isBadFact(name, a, b)) {
            return BAD;
        }
        if (said.has(name, a, b)) {
            return 1;
        }
        model.settle(said, rules, ruleCount);
        return model.held.has(name, a, b) ? 2 : 0;
    }

    public int round(int name, int a, int b) {
        if (isBadFact(name, a, b)) {
            return BAD;
        }
        if (said.has(name, a, b)) {
            return 0;
        }
        model.settle(said, rules, ruleCount);
        return model.held.has(name, a, b) ? model.roundOf(name, a, b) : NO;
    }

    public int counts(int name, int a, int b) {
        if (isBadFact(name, a, b)) {
            return BAD;
        }
        model.settle(said, rules, ruleCount);
        if (model.strata.circle >= 0) {
            return 0;
        }
        int sum = 0;
        for (int i = 0; i < ruleCount; i++) {
            Rule r = rules[i];
            if (r.name == name && r.isSafe()) {
                sum += model.timesGiven(r, a, b);
            }
        }
        return sum;
    }

    public int row(int n) {
        if (n >= NAMES * PAIRS - 1) {
            return NO;
        }
        model.settle(said, rules, ruleCount);
        return model.held.codeFrom(n < 0 ? 0 : n + 1);
    }

    public int size() {
        model.settle(said, rules, ruleCount);
        return model.held.total();
    }

    private int addPart(int rule, int does, int name, int x, int y) {
        if (isBadRule(rule) || isBadItem(x) || isBadItem(y)) {
            return BAD;
        }
        if (rules[rule].size >= PARTS) {
            return FULL;
        }
        rules[rule].addPart(does, name, x, y);
        model.stale = true;
        return rules[rule].size;
    }

    private boolean isBadRule(int rule) {
        return rule < 0 || rule >= ruleCount;
    }

    private static boolean isBadName(int name) {
        return name < 0 || name >= NAMES;
    }

    private static boolean isBadItem(int item) {
        return item < -VARIABLES || item >= NUMBERS;
    }

    private static boolean isBadFact(int name, int a, int b) {
        return isBadName(name) || a < 0 || a >= NUMBERS || b < 0 || b >= NUMBERS;
    }

    /** Which variable an item is, from 0; less than 0 when it is a number. */
    private static int variableOf(int item) {
        return -1 - item;
    }

    private static boolean isIn(int set, int n) {
        return (set >>> n & 1) != 0;
    }

    private static int leastOf(int set) {
        return Integer.bitCount((set & -set) - 1);
    }

    /** A set of facts, kept from both sides: by first number and by second number. */
    private static final class Facts {
        final int[] seconds = new int[NAMES * NUMBERS];
        final int[] firsts = new int[NAMES * NUMBERS];

        boolean has(int name, int a, int b) {
            return isIn(seconds[NUMBERS * name + a], b);
        }

        void add(int name, int a, int b) {
            seconds[NUMBERS * name + a] |= 1 << b;
            firsts[NUMBERS * name + b] |= 1 << a;
        }

        void cut(int name, int a, int b) {
            seconds[NUMBERS * name + a] &= ~(1 << b);
            firsts[NUMBERS * name + b] &= ~(1 << a);
        }

        void addAll(int name, int a, int set) {
            for (int b = 0; b < NUMBERS && set >>> b != 0; b++) {
                if (isIn(set, b)) {
                    add(name, a, b);
                }
            }
        }

        void takeAll(Facts other) {
            System.arraycopy(other.seconds, 0, seconds, 0, NAMES * NUMBERS);
            System.arraycopy(other.firsts, 0, firsts, 0, NAMES * NUMBERS);
        }

        void clear(int name) {
            for (int i = NUMBERS * name; i < NUMBERS * name + NUMBERS; i++) {
                seconds[i] = 0;
                firsts[i] = 0;
            }
        }

        /** The least code of a fact from this one on; a code is 32 times a place in seconds, and b. */
        int codeFrom(int code) {
            int from = code / NUMBERS;
            for (int i = from; i < NAMES * NUMBERS; i++) {
                int set = i == from ? seconds[i] & -1 << code % NUMBERS : seconds[i];
                if (set != 0) {
                    return NUMBERS * i + leastOf(set);
                }
            }
            return NO;
        }

        int total() {
            int sum = 0;
            for (int i = 0; i < NAMES * NUMBERS; i++) {
                sum += Integer.bitCount(seconds[i]);
            }
            return sum;
        }
    }

    private static final class Rule {
        int name;
        int x;
        int y;
        int kind = NONE;
        int variable;
        int size;
        final int[] does = new int[PARTS];
        final int[] names = new int[PARTS];
        final int[] xs = new int[PARTS];
        final int[] ys = new int[PARTS];

        void start(int headName, int headX, int headY) {
            name = headName;
            x = headX;
            y = headY;
            kind = NONE;
            variable = 0;
            size = 0;
        }

        void addPart(int partDoes, int partName, int partX, int partY) {
            if (size < PARTS) {
                does[size] = partDoes;
                names[size] = partName;
                xs[size] = partX;
                ys[size] = partY;
                size++;
            }
        }

        /** The item whose numbers are asked for beside the head's first one. */
        int secondItem() {
            return kind == NONE ? y : variable;
        }

        /** Whether how often a number comes makes a difference to what the rule gives. */
        boolean isTallied() {
            return kind == COUNT || kind == SUM;
        }

        boolean isSafe() {
            int given = 0;
            int asked = variables(x, secondItem());
            for (int i = 0; i < size; i++) {
                if (does[i] == PLAIN) {
                    given |= variables(xs[i], ys[i]);
                } else {
                    asked |= variables(xs[i], ys[i]);
                }
            }
            return (asked & ~given) == 0;
        }

        private static int variables(int one, int two) {
            int set = one < 0 ? 1 << variableOf(one) : 0;
            return two < 0 ? set | 1 << variableOf(two) : set;
        }
    }

    /** Which names need which, whether that goes in a circle, and else the number of each stratum. */
    private static final class Strata {
        private final int[] needs = new int[NAMES];
        private final int[] strict = new int[NAMES];
        private final int[] reach = new int[NAMES];
        final int[] level = new int[NAMES];
        int circle = NONE;

        void read(Rule[] rules, int count) {
            Arrays.fill(needs, 0);
            Arrays.fill(strict, 0);
            Arrays.fill(level, 0);
            for (int i = 0; i < count; i++) {
                if (rules[i].isSafe()) {
                    readRule(rules[i]);
                }
            }
            reachAll();
            circle = leastCircle();
            if (circle < 0) {
                number();
            }
        }

        private void readRule(Rule r) {
            for (int i = 0; i < r.size; i++) {
                boolean named = r.does[i] == PLAIN || r.does[i] == NOT;
                if (named) {
                    needs[r.name] |= 1 << r.names[i];
                }
                if (named && (r.does[i] == NOT || r.kind != NONE)) {
                    strict[r.name] |= 1 << r.names[i];
                }
            }
        }

        private void reachAll() {
            System.arraycopy(needs, 0, reach, 0, NAMES);
            for (int by = 0; by < NAMES; by++) {
                for (int n = 0; n < NAMES; n++) {
                    if (isIn(reach[n], by)) {
                        reach[n] |= reach[by];
                    }
                }
            }
        }

        private int leastCircle() {
            for (int n = 0; n < NAMES; n++) {
                for (int m = 0; m < NAMES; m++) {
                    if (isIn(strict[n], m) && (m == n || isIn(reach[m], n))) {
                        return n;
                    }
                }
            }
            return NONE;
        }

        /** Without a circle no way of needs counts a name twice, so NAMES turns settle all numbers. */
        private void number() {
            boolean moved = true;
            for (int turn = 0; moved && turn <= NAMES; turn++) {
                moved = false;
                for (int n = 0; n < NAMES; n++) {
                    int least = leastLevel(n);
                    if (least > level[n]) {
                        level[n] = least;
                        moved = true;
                    }
                }
            }
        }

        private int leastLevel(int n) {
            int least = 0;
            for (int m = 0; m < NAMES; m++) {
                if (isIn(needs[n], m)) {
                    least = Math.max(least, level[m] + (isIn(strict[n], m) ? 1 : 0));
                }
            }
            return least;
        }
    }

    /** What holds, and in which round each fact came. */
    private static final class Model {
        boolean stale = false;
        int roundCount = 0;
        final Strata strata = new Strata();
        final Facts held = new Facts();
        private final Cases cases = new Cases();
        /** A name's rounds are made when a rule gives its first fact: most names never need them. */
        private final int[][] rounds = new int[NAMES][0];
        /** The stratum of each rule, or NONE when it is unsafe. */
        private final int[] ruleLevel = new int[RULES];
        /** What the last round gave, and what this one has given so far, with the names in them. */
        private Facts last = new Facts();
        private Facts fresh = new Facts();
        private int lastNames = 0;
        private int freshNames = 0;

        /** Stratum by stratum, round by round: each round but the last of a stratum gives a fact more. */
        void settle(Facts said, Rule[] rules, int count) {
            if (!stale) {
                return;
            }
            stale = false;
            int levels = startLevels(said, rules, count);
            int level = 0;
            int round = 1;
            for (int step = 0; level < levels && step < NAMES * PAIRS + NAMES; step++) {
                for (int i = 0; i < count; i++) {
                    for (int part = NONE; ruleLevel[i] == level && part < rules[i].size; part++) {
                        if (isDue(rules[i], part, round)) {
                            give(rules[i], part);
                        }
                    }
                }
                if (keepFresh(round)) {
                    roundCount++;
                    round++;
                } else {
                    level++;
                    round = 1;
                }
            }
        }

        /** Answers how many strata have rules to run: none with a circle. */
        private int startLevels(Facts said, Rule[] rules, int count) {
            roundCount = 0;
            held.takeAll(said);
            strata.read(rules, count);
            int levels = 0;
            for (int i = 0; i < count; i++) {
                ruleLevel[i] = rules[i].isSafe() ? strata.level[rules[i].name] : NONE;
                levels = Math.max(levels, ruleLevel[i] + 1);
            }
            return strata.circle >= 0 ? 0 : levels;
        }

        /**
         * Whether a rule is looked at with this part taken from the last round (NONE: with no such part).
         * From the second round on a new head needs a fact that came in the last one, in a plain part:
         * what stands in NOT or below an aggregate is of lower strata and does not change any more.
         */
        private boolean isDue(Rule r, int part, int round) {
            if (part < 0 || round == 1) {
                return part < 0 && round == 1;
            }
            return r.kind == NONE && r.does[part] == PLAIN && isIn(lastNames, r.names[part]);
        }

        private void give(Rule r, int lastPart) {
            cases.load(r, held, last, lastPart, r.isTallied());
            int xs = cases.firstNumbers();
            for (int x = 0; x < NUMBERS && xs >>> x != 0; x++) {
                int at = NUMBERS * r.name + x;
                int open = ~(held.seconds[at] | fresh.seconds[at]);
                int found = isIn(xs, x) ? cases.find(x, r.kind == NONE ? open : -1) : 0;
                if (r.kind != NONE && found != 0) {
                    found = open & 1 << cases.total(r.kind, found);
                }
                if (found != 0) {
                    fresh.addAll(r.name, x, found);
                    freshNames |= 1 << r.name;
                }
            }
        }

        /** For counts: of a rule without an aggregate the cases, of one with it 1 or 0. */
        int timesGiven(Rule r, int a, int b) {
            cases.load(r, held, last, NONE, r.kind == NONE || r.isTallied());
            int found = cases.find(a, r.kind == NONE ? 1 << b : -1);
            if (found == 0) {
                return 0;
            }
            if (r.kind == NONE) {
                return cases.tally[b];
            }
            return cases.total(r.kind, found) == b ? 1 : 0;
        }

        int roundOf(int name, int a, int b) {
            int at = NUMBERS * a + b;
            return at < rounds[name].length ? rounds[name][at] : 0;
        }

        private boolean keepFresh(int round) {
            for (int name = 0; name < NAMES; name++) {
                if (isIn(lastNames, name)) {
                    last.clear(name);
                }
                if (isIn(freshNames, name)) {
                    keepName(name, round);
                }
            }
            Facts spare = last;
            last = fresh;
            fresh = spare;
            lastNames = freshNames;
            freshNames = 0;
            return lastNames != 0;
        }

        private void keepName(int name, int round) {
            if (rounds[name].length < PAIRS) {
                rounds[name] = new int[PAIRS];
            }
            for (int a = 0; a < NUMBERS; a++) {
                int set = fresh.seconds[NUMBERS * name + a];
                held.addAll(name, a, set);
                for (int b = 0; b < NUMBERS && set >>> b != 0; b++) {
                    if (isIn(set, b)) {
                        rounds[name][NUMBERS * a + b] = round;
                    }
                }
            }
        }
    }

    /**
     * The cases of one rule, asked for by one number of the head's first item at a time: which numbers
     * its second item (or the aggregate's variable) is in them, and how often each.
     *
     * Cases are not gone through one by one. Parts with two variables are links between these. A
     * variable with a single link is folded into the other end: there stays, for each number, how many
     * cases it stands for. Where links go in a ring, one variable is tried number by number.
     */
    private static final class Cases {
        /** As loaded; with the first item fixed; with the ring's variable fixed too. */
        private static final int LEVELS = 3;

        /** At 32 (6 u + v) + n: which numbers v may be when u is n. */
        private final int[] links = new int[VARIABLES * VARIABLES * NUMBERS];
        private final int[] near = new int[VARIABLES];
        private final int[] forth = new int[NUMBERS];
        private final int[] back = new int[NUMBERS];
        /** By level: variables not yet fixed or folded, what folded ones multiply all by, and the rest. */
        private final int[] free = new int[LEVELS];
        private final int[] times = new int[LEVELS];
        private final int[] range = new int[LEVELS * VARIABLES];
        private final int[] weight = new int[LEVELS * VARIABLES * NUMBERS];
        private final int[] sums = new int[NUMBERS];
        final int[] tally = new int[NUMBERS];
        private boolean counting;
        private boolean impossible;
        private int first;
        private int second;
        /** The variable that is asked for, never folded or fixed; NONE when keptNumber is known at once. */
        private int kept;
        private int keptNumber;

        /** The part lastPart (NONE for none of them) is taken from the facts of the last round alone. */
        void load(Rule r, Facts held, Facts last, int lastPart, boolean count) {
            counting = count;
            impossible = false;
            first = r.x;
            second = r.secondItem();
            kept = second < 0 && second != first ? variableOf(second) : NONE;
            free[0] = 0;
            times[0] = 1;
            Arrays.fill(near, 0);
            for (int v = 0; v < VARIABLES; v++) {
                range[v] = -1;
            }
            if (counting) {
                Arrays.fill(weight, 1);
            }
            for (int i = 0; i < r.size; i++) {
                if (r.does[i] == PLAIN || r.does[i] == NOT) {
                    readFacts(i == lastPart ? last : held, r.names[i], r.does[i] == NOT);
                } else {
                    readFilter(r.does[i]);
                }
                join(r.xs[i], r.ys[i]);
            }
        }

        private void readFacts(Facts facts, int name, boolean not) {
            System.arraycopy(facts.seconds, NUMBERS * name, forth, 0, NUMBERS);
            System.arraycopy(facts.firsts, NUMBERS * name, back, 0, NUMBERS);
            for (int n = 0; not && n < NUMBERS; n++) {
                forth[n] = ~forth[n];
                back[n] = ~back[n];
            }
        }

        private void readFilter(int does) {
            for (int n = 0; n < NUMBERS; n++) {
                int one = 1 << n;
                if (does == LESS) {
                    forth[n] = -one << 1;
                    back[n] = one - 1;
                } else if (does == DIFFER) {
                    forth[n] = ~one;
                    back[n] = ~one;
                } else {
                    forth[n] = one << 1;
                    back[n] = one >>> 1;
                }
            }
        }

        /** Takes the part that was read into account: forth goes from x to y, back the other way. */
        private void join(int x, int y) {
            if (x >= 0 && y >= 0) {
                impossible = impossible || !isIn(forth[x], y);
            } else if (x >= 0) {
                narrow(variableOf(y), forth[x]);
            } else if (y >= 0) {
                narrow(variableOf(x), back[y]);
            } else if (x == y) {
                narrow(variableOf(x), numbersWithThemselves());
            } else {
                narrow(variableOf(x), link(variableOf(x), variableOf(y), forth));
                narrow(variableOf(y), link(variableOf(y), variableOf(x), back));
            }
        }

        private void narrow(int v, int set) {
            free[0] |= 1 << v;
            range[v] &= set;
            impossible = impossible || range[v] == 0;
        }

        private int numbersWithThemselves() {
            int set = 0;
            for (int n = 0; n < NUMBERS; n++) {
                set |= forth[n] & 1 << n;
            }
            return set;
        }

        /** Answers the numbers of u for which v may be something. */
        private int link(int u, int v, int[] allowed) {
            int at = (VARIABLES * u + v) * NUMBERS;
            boolean linked = isIn(near[u], v);
            int some = 0;
            for (int n = 0; n < NUMBERS; n++) {
                links[at + n] = linked ? links[at + n] & allowed[n] : allowed[n];
                some |= links[at + n] != 0 ? 1 << n : 0;
            }
            near[u] |= 1 << v;
            return some;
        }

        int firstNumbers() {
            if (impossible) {
                return 0;
            }
            return first < 0 ? range[variableOf(first)] : 1 << first;
        }

        /**
         * Which of the wanted numbers the second item is when the first one is x; tally has how often.
         * Fixing one variable is enough: five parts are at most five links, and rings that the variable
         * with most links does not lie on would need six.
         */
        int find(int x, int wanted) {
            if (!begin(x, wanted) || !foldAll(1)) {
                return 0;
            }
            int ring = mostLinked();
            if (ring < 0) {
                return gather(1);
            }
            int goal = kept >= 0 ? range[VARIABLES + kept] : 1 << keptNumber;
            int set = range[VARIABLES + ring];
            int found = 0;
            for (int n = 0; n < NUMBERS && (counting || found != goal); n++) {
                if (isIn(set, n)) {
                    copyLevel(1);
                    if (fix(2, ring, n) && foldAll(2)) {
                        found |= gather(2);
                    }
                }
            }
            return found;
        }

        private boolean begin(int x, int wanted) {
            if (!isIn(firstNumbers(), x)) {
                return false;
            }
            Arrays.fill(tally, 0);
            copyLevel(0);
            if (first < 0 && !fix(1, variableOf(first), x)) {
                return false;
            }
            if (kept >= 0) {
                range[VARIABLES + kept] &= wanted;
                return range[VARIABLES + kept] != 0;
            }
            keptNumber = second >= 0 ? second : x;
            return isIn(wanted, keptNumber);
        }

        private void copyLevel(int level) {
            int next = level + 1;
            free[next] = free[level];
            times[next] = times[level];
            System.arraycopy(range, level * VARIABLES, range, next * VARIABLES, VARIABLES);
            if (counting) {
                int length = VARIABLES * NUMBERS;
                System.arraycopy(weight, level * length, weight, next * length, length);
            }
        }

        /** Answers false when a variable has no number left. */
        private boolean fix(int level, int v, int n) {
            free[level] &= ~(1 << v);
            times[level] *= counting ? weight[(level * VARIABLES + v) * NUMBERS + n] : 1;
            for (int u = 0; u < VARIABLES; u++) {
                if (isIn(near[v] & free[level], u)) {
                    int at = level * VARIABLES + u;
                    range[at] &= links[(VARIABLES * v + u) * NUMBERS + n];
                    if (range[at] == 0) {
                        return false;
                    }
                }
            }
            return true;
        }

        /** Each turn but the last folds one variable or more; answers false when there is no case. */
        private boolean foldAll(int level) {
            boolean more = true;
            for (int turn = 0; more && turn < VARIABLES; turn++) {
                more = false;
                for (int v = 0; v < VARIABLES; v++) {
                    if (v != kept && isIn(free[level], v) && linkCount(level, v) <= 1) {
                        more = true;
                        if (!fold(level, v)) {
                            return false;
                        }
                    }
                }
            }
            return true;
        }

        private int linkCount(int level, int v) {
            return Integer.bitCount(near[v] & free[level]);
        }

        private int mostLinked() {
            int most = NONE;
            for (int v = 0; v < VARIABLES; v++) {
                if (v != kept && isIn(free[1], v)
                        && (most < 0 || linkCount(1, v) > linkCount(1, most))) {
                    most = v;
                }
            }
            return most;
        }

        private boolean fold(int level, int v) {
            free[level] &= ~(1 << v);
            int from = level * VARIABLES + v;
            int others = near[v] & free[level];
            if (others == 0) {
                times[level] *= counting ? weightOf(from) : 1;
                return range[from] != 0;
            }
            int u = leastOf(others);
            int to = level * VARIABLES + u;
            int at = (VARIABLES * v + u) * NUMBERS;
            if (counting) {
                weigh(from, to, at);
            }
            int set = range[from];
            int met = 0;
            for (int n = 0; n < NUMBERS && set >>> n != 0; n++) {
                met |= isIn(set, n) ? links[at + n] : 0;
            }
            range[to] &= met;
            return range[to] != 0;
        }

        private int weightOf(int from) {
            int sum = 0;
            for (int n = 0; n < NUMBERS; n++) {
                sum += isIn(range[from], n) ? weight[from * NUMBERS + n] : 0;
            }
            return sum;
        }

        /** Each number at the other end stands for as many cases more as its partners here do in all. */
        private void weigh(int from, int to, int at) {
            Arrays.fill(sums, 0);
            for (int n = 0; n < NUMBERS; n++) {
                int set = (range[from] >>> n & 1) != 0 ? links[at + n] & range[to] : 0;
                for (int m = 0; m < NUMBERS && set >>> m != 0; m++) {
                    sums[m] += (set >>> m & 1) * weight[from * NUMBERS + n];
                }
            }
            for (int m = 0; m < NUMBERS; m++) {
                weight[to * NUMBERS + m] *= sums[m];
            }
        }

        private int gather(int level) {
            if (kept < 0) {
                tally[keptNumber] += times[level];
                return 1 << keptNumber;
            }
            int at = level * VARIABLES + kept;
            for (int n = 0; counting && n < NUMBERS; n++) {
                tally[n] += isIn(range[at], n) ? times[level] * weight[at * NUMBERS + n] : 0;
            }
            return range[at];
        }

        /** The aggregate's number from what find answered; wrap-around does no harm modulo 32. */
        int total(int kind, int found) {
            if (kind == LEAST) {
                return leastOf(found);
            }
            int sum = 0;
            for (int n = 0; n < NUMBERS; n++) {
                if (kind == GREATEST) {
                    sum = isIn(found, n) ? n : sum;
                } else {
                    sum += kind == SUM ? n * tally[n] : tally[n];
                }
            }
            return sum & NUMBERS - 1;
        }
    }
}
