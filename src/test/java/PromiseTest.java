/** Each promise of the document by its number: ordinary inputs, the edges it names, wrong inputs. */
public final class PromiseTest {
    private static final int BAD = -1;
    private static final int NO = -2;
    private static final int FULL = -3;
    private static final int LOW = Integer.MIN_VALUE;
    private static final int HIGH = Integer.MAX_VALUE;
    private static final int[] BAD_NAMES = {LOW, -1, 16, HIGH};
    private static final int[] BAD_NUMBERS = {LOW, -1, 32, HIGH};
    private static final int[] BAD_ITEMS = {LOW, -7, 32, HIGH};

    private static int wrong = 0;

    private static void due(String call, int got, int want) {
        if (got != want) {
            wrong++;
            System.out.println(call + " answered " + got + ", due is " + want);
        }
    }

    public static void main(String[] args) {
        newObject();
        factAndRemove();
        rule();
        body();
        filter();
        filterMeaning();
        aggregate();
        aggregateMeaning();
        aggregateHead();
        drop();
        safe();
        safeWithAggregate();
        run();
        runWithCircle();
        stratum();
        holds();
        round();
        counts();
        countsWithAggregate();
        row();
        size();
        badCallsChangeNothing();
        System.out.println(wrong == 0 ? "all promises are kept" : wrong + " answers are not as due");
        if (wrong != 0) {
            System.exit(1);
        }
    }

    /** A rule with plain parts, each a name and two items. */
    private static int ruleOf(RuleEngine e, int name, int x, int y, int... parts) {
        int r = e.rule(name, x, y);
        for (int i = 0; i + 2 < parts.length; i += 3) {
            e.body(r, parts[i], parts[i + 1], parts[i + 2], false);
        }
        return r;
    }

    private static void newObject() {
        RuleEngine e = new RuleEngine();
        due("1: size", e.size(), 0);
        due("1: row", e.row(-1), NO);
        due("1: run", e.run(), 0);
        due("1: safe(0)", e.safe(0), BAD);
        due("1: drop(0)", e.drop(0), BAD);
        due("1: stratum(15)", e.stratum(15), 0);
        due("1: counts", e.counts(0, 0, 0), 0);
        due("1: the first rule", e.rule(0, 0, 0), 0);
        RuleEngine other = new RuleEngine();
        due("1: objects are apart", other.size(), 0);
        due("1: rules are apart", other.safe(0), BAD);
    }

    private static void factAndRemove() {
        RuleEngine e = new RuleEngine();
        due("2: new", e.fact(0, 0, 0), 1);
        due("2: again", e.fact(0, 0, 0), 0);
        due("2: greatest", e.fact(15, 31, 31), 1);
        due("2: order counts", e.fact(3, 4, 5), 1);
        due("2: order counts", e.fact(3, 5, 4), 1);
        due("3: not said", e.remove(3, 5, 5), 0);
        due("3: said", e.remove(3, 5, 4), 1);
        due("3: said no more", e.remove(3, 5, 4), 0);
        due("3: holds no more", e.holds(3, 5, 4), 0);
        due("3: the other stays", e.holds(3, 4, 5), 1);
        due("2: said anew", e.fact(3, 5, 4), 1);
        for (int bad : BAD_NAMES) {
            due("2: name " + bad, e.fact(bad, 0, 0), BAD);
            due("3: name " + bad, e.remove(bad, 0, 0), BAD);
        }
        for (int bad : BAD_NUMBERS) {
            due("2: a " + bad, e.fact(0, bad, 0), BAD);
            due("2: b " + bad, e.fact(0, 0, bad), BAD);
            due("3: a " + bad, e.remove(0, bad, 0), BAD);
            due("3: b " + bad, e.remove(0, 0, bad), BAD);
        }
        due("2: size", e.size(), 4);
        givenIsNotSaid();
    }

    private static void givenIsNotSaid() {
        RuleEngine e = new RuleEngine();
        e.rule(1, 2, 3);
        due("3: given, not said", e.remove(1, 2, 3), 0);
        due("2: given, now said", e.fact(1, 2, 3), 1);
        due("12: said", e.holds(1, 2, 3), 1);
        due("3: said", e.remove(1, 2, 3), 1);
        due("3: still given", e.holds(1, 2, 3), 2);
    }

    private static void rule() {
        RuleEngine e = new RuleEngine();
        for (int bad : BAD_NAMES) {
            due("4: name " + bad, e.rule(bad, 0, 0), BAD);
        }
        for (int bad : BAD_ITEMS) {
            due("4: x " + bad, e.rule(0, bad, 0), BAD);
            due("4: y " + bad, e.rule(0, 0, bad), BAD);
        }
        for (int i = 0; i < 16; i++) {
            due("4: number " + i, e.rule(i, i % 2 == 0 ? -6 : 31, -1), i);
        }
        due("4: seventeenth", e.rule(0, 0, 0), FULL);
        due("4: BAD goes first", e.rule(16, 0, 0), BAD);
        e.drop(3);
        due("4: room again", e.rule(5, 6, 7), 15);
        due("4: it has no parts and no aggregate left", e.holds(5, 6, 7), 2);
    }

    private static void body() {
        RuleEngine e = new RuleEngine();
        due("5: no rule", e.body(0, 0, 0, 0, false), BAD);
        e.rule(1, -1, -1);
        due("5: rule -1", e.body(-1, 0, 0, 0, false), BAD);
        due("5: rule 1", e.body(1, 0, 0, 0, false), BAD);
        due("5: rule LOW", e.body(LOW, 0, 0, 0, true), BAD);
        due("5: rule HIGH", e.body(HIGH, 0, 0, 0, true), BAD);
        for (int bad : BAD_NAMES) {
            due("5: name " + bad, e.body(0, bad, 0, 0, false), BAD);
        }
        for (int bad : BAD_ITEMS) {
            due("5: x " + bad, e.body(0, 0, bad, 0, false), BAD);
            due("5: y " + bad, e.body(0, 0, 0, bad, true), BAD);
        }
        due("5: first", e.body(0, 0, -1, 31, false), 1);
        due("5: second", e.body(0, 0, -1, -6, false), 2);
        due("5: not", e.body(0, 2, -1, 0, true), 3);
        due("5: a filter is a part", e.filter(0, 0, -1, 9), 4);
        due("5: fifth", e.body(0, 15, 0, 0, true), 5);
        due("5: sixth", e.body(0, 0, -1, -1, false), FULL);
        due("5: sixth, a filter", e.filter(0, 1, -1, -1), FULL);
        due("5: BAD goes first", e.body(0, 16, -1, -1, false), BAD);
        due("5: BAD goes first", e.body(0, 0, -7, -1, false), BAD);
        due("6: BAD goes first", e.filter(0, 3, -1, -1), BAD);
        e.fact(0, 4, 31);
        due("5: holds by its parts", e.holds(1, 4, 4), 2);
        e.fact(2, 4, 0);
        due("5: NOT", e.holds(1, 4, 4), 0);
        e.remove(2, 4, 0);
        e.fact(15, 0, 0);
        due("5: NOT of numbers alone", e.holds(1, 4, 4), 0);
    }

    private static void filter() {
        RuleEngine e = new RuleEngine();
        due("6: no rule", e.filter(0, 0, 0, 0), BAD);
        e.rule(1, 0, 0);
        for (int does : new int[] {LOW, -1, 3, HIGH}) {
            due("6: does " + does, e.filter(0, does, 0, 0), BAD);
        }
        for (int bad : BAD_ITEMS) {
            due("6: x " + bad, e.filter(0, 0, bad, 0), BAD);
            due("6: y " + bad, e.filter(0, 0, 0, bad), BAD);
        }
        due("6: rule 1", e.filter(1, 0, 0, 0), BAD);
        due("6: rule -1", e.filter(-1, 0, 0, 0), BAD);
        due("6: first", e.filter(0, 0, 0, 31), 1);
        due("6: second", e.filter(0, 1, 0, 31), 2);
        due("6: third", e.filter(0, 2, 30, 31), 3);
        due("6: all are so", e.holds(1, 0, 0), 2);
        due("6: fourth", e.filter(0, 2, 31, 0), 4);
        due("6: 0 is not 31 and one more", e.holds(1, 0, 0), 0);
    }

    /** All pairs of some numbers through each filter: both variables, a number first, a number second. */
    private static void filterMeaning() {
        int[] numbers = {0, 1, 2, 15, 16, 30, 31};
        for (int does = 0; does < 3; does++) {
            RuleEngine e = new RuleEngine();
            for (int n : numbers) {
                e.fact(0, n, n);
            }
            int r = ruleOf(e, 1, -1, -2, 0, -1, -1, 0, -2, -2);
            e.filter(r, does, -1, -2);
            e.filter(ruleOf(e, 2, -1, -1, 0, -1, -1), does, 15, -1);
            e.filter(ruleOf(e, 3, -1, -1, 0, -1, -1), does, -1, 16);
            e.filter(ruleOf(e, 4, -1, -1, 0, -1, -1), does, -1, -1);
            for (int a : numbers) {
                for (int b : numbers) {
                    String call = "6: filter " + does + " of " + a + " and " + b;
                    due(call, e.holds(1, a, b), isSo(does, a, b) ? 2 : 0);
                    due(call, e.holds(2, b, b), isSo(does, 15, b) ? 2 : 0);
                    due(call, e.holds(3, a, a), isSo(does, a, 16) ? 2 : 0);
                    due(call, e.holds(4, a, a), isSo(does, a, a) ? 2 : 0);
                }
            }
        }
    }

    private static boolean isSo(int does, int a, int b) {
        return does == 0 ? a < b : does == 1 ? a != b : b == a + 1;
    }

    private static void aggregate() {
        RuleEngine e = new RuleEngine();
        due("7: no rule", e.aggregate(0, 0, -1), BAD);
        due("7: no rule, kind -1", e.aggregate(0, -1, -1), BAD);
        e.rule(1, 3, 4);
        due("7: rule 1", e.aggregate(1, 0, -1), BAD);
        due("7: rule -1", e.aggregate(-1, 0, -1), BAD);
        for (int kind : new int[] {LOW, -2, 4, HIGH}) {
            due("7: kind " + kind, e.aggregate(0, kind, -1), BAD);
        }
        for (int variable : new int[] {LOW, -7, 0, 5, HIGH}) {
            due("7: variable " + variable, e.aggregate(0, 0, variable), BAD);
        }
        due("7: no aggregate yet", e.holds(1, 3, 4), 2);
        due("7: of a variable in no part", e.aggregate(0, 3, -6), 1);
        due("7: unsafe then", e.holds(1, 3, 4), 0);
        due("7: none", e.aggregate(0, -1, -1), 1);
        due("7: the head again", e.holds(1, 3, 4), 2);
        due("7: none, and no variable is asked for", e.aggregate(0, -1, 0), 1);
    }

    private static void aggregateMeaning() {
        RuleEngine e = new RuleEngine();
        e.fact(0, 1, 5);
        e.fact(0, 1, 9);
        e.fact(0, 1, 30);
        e.fact(0, 2, 0);
        e.fact(1, 7, 7);
        e.fact(1, 8, 8);
        ruleOf(e, 2, -1, 31, 0, -1, -2);
        int[][] want = {{3, 1}, {(5 + 9 + 30) % 32, 0}, {5, 0}, {30, 0}};
        for (int kind = 0; kind < 4; kind++) {
            due("7: kind " + kind, e.aggregate(0, kind, -2), 1);
            due("7: of 1", e.holds(2, 1, want[kind][0]), 2);
            due("7: of 2", e.holds(2, 2, want[kind][1]), 2);
            due("7: no more", e.size(), 8);
        }
        // all cases count, not all numbers: each comes twice by the other variable
        e.body(0, 1, -3, -3, false);
        int[][] twice = {{6, 2}, {(2 * 44) % 32, 0}, {5, 0}, {30, 0}};
        for (int kind = 0; kind < 4; kind++) {
            e.aggregate(0, kind, -2);
            due("7: twice, of 1", e.holds(2, 1, twice[kind][0]), 2);
            due("7: twice, of 2", e.holds(2, 2, twice[kind][1]), 2);
        }
    }

    private static void aggregateHead() {
        RuleEngine e = new RuleEngine();
        for (int b = 0; b < 32; b++) {
            e.fact(0, 4, b);
        }
        int r = ruleOf(e, 1, 9, -6, 0, -1, -2);
        e.aggregate(r, 0, -1);
        due("7: the head's second item is not looked at", e.safe(r), 1);
        due("7: 32 cases are 0", e.holds(1, 9, 0), 2);
        e.aggregate(r, 1, -2);
        due("7: sum modulo 32", e.holds(1, 9, 31 * 16 % 32), 2);
        e.remove(0, 4, 31);
        due("7: sum modulo 32", e.holds(1, 9, 30 * 31 / 2 % 32), 2);
        int same = ruleOf(e, 2, -1, 0, 0, -1, -2);
        e.aggregate(same, 1, -1);
        due("7: of the head's first item itself", e.holds(2, 4, 31 * 4 % 32), 2);
        int none = ruleOf(e, 3, 9, 0, 5, -1, -2);
        e.aggregate(none, 0, -1);
        due("7: no case, nothing given", e.holds(3, 9, 0), 0);
    }

    private static void drop() {
        RuleEngine e = new RuleEngine();
        e.rule(0, 1, 1);
        e.rule(1, -1, -1);
        e.rule(2, 3, 3);
        due("8: rule 3", e.drop(3), BAD);
        due("8: rule -1", e.drop(-1), BAD);
        due("8: rule LOW", e.drop(LOW), BAD);
        due("8: rule HIGH", e.drop(HIGH), BAD);
        due("8: safe(1)", e.safe(1), 0);
        due("8: middle", e.drop(1), 2);
        due("8: the one behind is 1 now", e.safe(1), 1);
        due("8: none is 2", e.safe(2), BAD);
        due("8: both still give", e.size(), 2);
        due("8: first", e.drop(0), 1);
        due("8: gives no more", e.holds(0, 1, 1), 0);
        due("8: still gives", e.holds(2, 3, 3), 2);
        due("8: last", e.drop(0), 0);
        due("8: none left", e.drop(0), BAD);
        due("8: nothing", e.size(), 0);
    }

    private static void safe() {
        RuleEngine e = new RuleEngine();
        for (int bad : new int[] {LOW, -1, 0, HIGH}) {
            due("9: rule " + bad, e.safe(bad), BAD);
        }
        due("9: numbers alone", e.safe(e.rule(1, 2, 3)), 1);
        due("9: first item", e.safe(e.rule(1, -1, 3)), 0);
        due("9: second item", e.safe(e.rule(1, 2, -1)), 0);
        int r = e.rule(1, -1, -2);
        e.body(r, 0, -1, -1, false);
        due("9: one of two", e.safe(r), 0);
        e.body(r, 0, -2, -1, true);
        due("9: NOT does not help", e.safe(r), 0);
        e.filter(r, 0, -2, -2);
        due("9: a filter does not help", e.safe(r), 0);
        e.body(r, 0, 5, -2, false);
        due("9: a part that is neither", e.safe(r), 1);
        e.filter(r, 0, -3, -1);
        due("9: a filter's variable", e.safe(r), 0);
        int n = e.rule(1, 0, 0);
        e.body(n, 0, -6, 0, true);
        due("9: NOT's variable", e.safe(n), 0);
        e.body(n, 3, -6, -5, false);
        due("9: wherever the part stands", e.safe(n), 1);
        int f = e.rule(1, 0, 0);
        e.filter(f, 1, 0, -4);
        due("9: a filter's second variable", e.safe(f), 0);
    }

    private static void safeWithAggregate() {
        RuleEngine e = new RuleEngine();
        int r = ruleOf(e, 1, -1, -2, 0, -1, -3);
        due("9: without one", e.safe(r), 0);
        e.aggregate(r, 0, -3);
        due("9: the second item is not asked for", e.safe(r), 1);
        e.aggregate(r, 0, -2);
        due("9: the aggregate's variable is", e.safe(r), 0);
        int s = ruleOf(e, 1, -2, 0, 0, -1, -3);
        e.aggregate(s, 0, -1);
        due("9: the first item is", e.safe(s), 0);
        e.fact(0, 1, 1);
        due("9: unsafe rules give nothing", e.run(), 0);
        due("9: nothing at all", e.size(), 1);
    }

    private static void run() {
        RuleEngine e = new RuleEngine();
        e.fact(0, 0, 0);
        int r = ruleOf(e, 1, -1, -1, 0, -1, -1);
        due("10: one round", e.run(), 1);
        e.fact(1, 0, 0);
        due("10: it was said already", e.run(), 0);
        e.remove(1, 0, 0);
        ruleOf(e, 2, -1, -1, 1, -1, -1);
        ruleOf(e, 3, -1, -1, 2, -1, -1);
        due("10: one stratum, three rounds", e.run(), 3);
        int s = ruleOf(e, 4, -1, -1, 3, -1, -1);
        e.body(s, 5, -1, -1, true);
        due("10: a second stratum", e.run(), 4);
        due("10: again", e.run(), 4);
        e.drop(r);
        due("10: nothing to go on", e.run(), 0);
    }

    private static void runWithCircle() {
        RuleEngine e = new RuleEngine();
        e.fact(0, 0, 0);
        int r = ruleOf(e, 15, -1, -1, 0, -1, -1);
        e.body(r, 15, -1, -1, true);
        due("10: a circle at 15", e.run(), -25);
        int s = ruleOf(e, 7, -1, -1, 8, -1, -1);
        e.aggregate(s, 0, -1);
        int t = ruleOf(e, 8, -1, -1, 7, -1, -1);
        due("10: by way of an aggregate", e.run(), -17);
        due("10: rules do not give then", e.size(), 1);
        e.drop(t);
        due("10: no circle at 7", e.run(), -25);
        int z = ruleOf(e, 0, -1, -1, 0, -1, -1);
        due("10: no circle without strictness", e.run(), -25);
        e.body(z, 0, 4, -1, true);
        due("10: at 0", e.run(), -10);
        e.drop(z);
        e.drop(r);
        due("10: none", e.run(), 0);
        int u = e.rule(3, 0, 0);
        e.body(u, 3, -1, 0, true);
        due("10: unsafe rules make no circle", e.run(), 0);
        e.body(u, 9, -1, -1, false);
        due("10: now it is safe", e.run(), -13);
        longCircle();
    }

    private static void longCircle() {
        RuleEngine e = new RuleEngine();
        for (int n = 2; n < 16; n++) {
            ruleOf(e, n, -1, -1, n == 15 ? 2 : n + 1, -1, -1);
        }
        due("10: fourteen plain needs", e.run(), 0);
        int r = ruleOf(e, 9, -1, -1, 0, -1, -1);
        e.body(r, 1, -1, -1, true);
        due("10: strict, but no circle", e.run(), 0);
        due("11: all in the circle of plain needs", e.stratum(2), 1);
        ruleOf(e, 1, -1, -1, 10, -1, -1);
        due("10: the circle is at 9 alone", e.run(), -19);
    }

    private static void stratum() {
        RuleEngine e = new RuleEngine();
        for (int bad : BAD_NAMES) {
            due("11: name " + bad, e.stratum(bad), BAD);
        }
        for (int n = 1; n < 16; n++) {
            int r = ruleOf(e, n, -1, -1, 0, -1, -1);
            e.body(r, n - 1, -1, -1, true);
        }
        for (int n = 0; n < 16; n++) {
            due("11: stratum(" + n + ")", e.stratum(n), n);
        }
        ruleOf(e, 2, 0, 0, 15, 0, 0);
        due("11: a circle", e.stratum(0), NO);
        due("11: BAD even then", e.stratum(16), BAD);
        e.drop(15);
        due("11: no circle", e.stratum(15), 15);
        plainAndAggregate();
    }

    private static void plainAndAggregate() {
        RuleEngine e = new RuleEngine();
        int r = ruleOf(e, 9, -1, -1, 4, -1, -2);
        due("11: plain", e.stratum(9), 0);
        e.aggregate(r, 2, -2);
        due("11: aggregate", e.stratum(9), 1);
        ruleOf(e, 3, -1, -1, 9, -1, -1);
        due("11: as that which it needs", e.stratum(3), 1);
        e.filter(r, 0, -1, -2);
        due("11: filters need nothing", e.stratum(9), 1);
        e.aggregate(r, 2, -6);
        due("11: unsafe rules count nowhere", e.stratum(9), 0);
    }

    private static void holds() {
        RuleEngine e = new RuleEngine();
        e.fact(0, 31, 0);
        ruleOf(e, 1, -2, -1, 0, -1, -2);
        due("12: said", e.holds(0, 31, 0), 1);
        due("12: alone", e.holds(1, 0, 31), 2);
        due("12: not", e.holds(1, 31, 0), 0);
        e.fact(1, 0, 31);
        due("12: said and given", e.holds(1, 0, 31), 1);
        for (int bad : BAD_NAMES) {
            due("12: name " + bad, e.holds(bad, 0, 0), BAD);
        }
        for (int bad : BAD_NUMBERS) {
            due("12: a " + bad, e.holds(0, bad, 0), BAD);
            due("12: b " + bad, e.holds(0, 0, bad), BAD);
        }
        e.body(ruleOf(e, 2, 1, 1), 2, 1, 1, true);
        e.remove(1, 0, 31);
        due("12: with a circle what was said", e.holds(0, 31, 0), 1);
        due("12: with a circle nothing else", e.holds(1, 0, 31), 0);
    }

    private static void round() {
        RuleEngine e = new RuleEngine();
        for (int n = 0; n < 5; n++) {
            e.fact(0, n, n + 1);
        }
        ruleOf(e, 1, -1, -2, 0, -1, -2);
        ruleOf(e, 1, -1, -3, 1, -1, -2, 0, -2, -3);
        int r = ruleOf(e, 2, -1, -2, 1, -1, -2);
        e.body(r, 0, -1, -2, true);
        for (int far = 1; far <= 5; far++) {
            due("13: way of " + far, e.round(1, 0, far), far);
        }
        due("13: of its own stratum", e.round(2, 0, 5), 1);
        due("13: said", e.round(0, 0, 1), 0);
        due("13: does not hold", e.round(2, 0, 1), NO);
        e.fact(1, 0, 4);
        due("13: said now", e.round(1, 0, 4), 0);
        due("13: sooner now", e.round(1, 0, 5), 1);
        e.remove(0, 2, 3);
        due("13: no more", e.round(1, 0, 3), NO);
        for (int bad : BAD_NAMES) {
            due("13: name " + bad, e.round(bad, 0, 0), BAD);
        }
        for (int bad : BAD_NUMBERS) {
            due("13: a " + bad, e.round(0, bad, 0), BAD);
            due("13: b " + bad, e.round(0, 0, bad), BAD);
        }
    }

    private static void counts() {
        RuleEngine e = new RuleEngine();
        for (int n = 0; n < 4; n++) {
            e.fact(0, 7, n);
            e.fact(1, n, 8);
        }
        int r = ruleOf(e, 2, -1, -3, 0, -1, -2, 1, -2, -3);
        due("14: four ways", e.counts(2, 7, 8), 4);
        due("14: none", e.counts(2, 8, 7), 0);
        due("14: said alone", e.counts(0, 7, 1), 0);
        e.fact(2, 7, 8);
        due("14: said too", e.counts(2, 7, 8), 4);
        ruleOf(e, 2, 7, 8, 0, -1, -2);
        due("14: two rules", e.counts(2, 7, 8), 8);
        ruleOf(e, 2, 7, 8);
        due("14: a rule with no parts has one case", e.counts(2, 7, 8), 9);
        e.body(r, 5, -4, -5, true);
        due("14: an unsafe rule", e.counts(2, 7, 8), 5);
        ruleOf(e, 2, -1, -2, 2, -1, -2);
        due("14: from all that holds, itself too", e.counts(2, 7, 8), 6);
        for (int bad : BAD_NAMES) {
            due("14: name " + bad, e.counts(bad, 0, 0), BAD);
        }
        for (int bad : BAD_NUMBERS) {
            due("14: a " + bad, e.counts(0, bad, 0), BAD);
            due("14: b " + bad, e.counts(0, 0, bad), BAD);
        }
        e.body(ruleOf(e, 9, 0, 0), 9, 0, 0, true);
        due("14: with a circle", e.counts(2, 7, 8), 0);
    }

    private static void countsWithAggregate() {
        RuleEngine e = new RuleEngine();
        e.fact(0, 1, 2);
        e.fact(0, 1, 1);
        for (int kind = 0; kind < 4; kind++) {
            e.aggregate(ruleOf(e, 1, -1, 0, 0, -1, -2), kind, -2);
        }
        due("14: COUNT and GREATEST", e.counts(1, 1, 2), 2);
        due("14: SUM", e.counts(1, 1, 3), 1);
        due("14: LEAST", e.counts(1, 1, 1), 1);
        due("14: none", e.counts(1, 1, 0), 0);
        ruleOf(e, 1, 1, 2, 0, -1, -2);
        due("14: and two cases", e.counts(1, 1, 2), 4);
    }

    private static void row() {
        RuleEngine e = new RuleEngine();
        e.fact(0, 0, 0);
        e.fact(0, 0, 31);
        e.fact(0, 1, 0);
        e.rule(3, 2, 1);
        e.fact(15, 31, 31);
        int[] codes = {0, 31, 32, 3 * 1024 + 2 * 32 + 1, 16383};
        int n = LOW;
        for (int code : codes) {
            due("15: row(" + n + ")", e.row(n), code);
            due("15: row(" + (code - 1) + ")", e.row(code - 1), code);
            n = code;
        }
        due("15: behind the last", e.row(16383), NO);
        due("15: row(16384)", e.row(16384), NO);
        due("15: row(HIGH)", e.row(HIGH), NO);
        due("15: row(-5)", e.row(-5), 0);
        e.remove(15, 31, 31);
        due("15: none", e.row(16382), NO);
        due("15: none above", e.row(codes[3]), NO);
    }

    private static void size() {
        RuleEngine e = new RuleEngine();
        e.fact(0, 0, 0);
        e.fact(1, 31, 31);
        due("16: said", e.size(), 2);
        ruleOf(e, 1, -1, -2, 0, -1, -1, 0, -2, -2);
        due("16: and given", e.size(), 3);
        e.fact(0, 31, 31);
        due("16: each counts once", e.size(), 6);
        e.body(0, 1, 31, 31, true);
        due("16: with a circle", e.size(), 3);
    }

    private static void badCallsChangeNothing() {
        RuleEngine e = new RuleEngine();
        e.fact(0, 1, 1);
        int r = ruleOf(e, 1, -1, -1, 0, -1, -1);
        e.fact(0, 32, 1);
        e.remove(0, 1, -1);
        e.body(r, 16, -1, -1, true);
        e.body(r, 0, -1, 32, true);
        e.filter(r, 3, -1, -1);
        e.filter(r, 0, -1, -7);
        e.aggregate(r, 4, -1);
        e.aggregate(r, 0, 1);
        e.drop(1);
        due("run", e.run(), 1);
        due("size", e.size(), 2);
        due("holds", e.holds(1, 1, 1), 2);
        due("parts", e.body(r, 0, -1, -1, false), 2);
    }
}
