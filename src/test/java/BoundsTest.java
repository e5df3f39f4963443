/** The sentences of promises 1 to 16, each with the inputs on both sides of its bounds. */
public final class BoundsTest extends Sentences {
    public static void main(String[] args) {
        newObject();
        fact();
        remove();
        rule();
        ruleRefused();
        body();
        bodyRefused();
        bodyFull();
        filter();
        filterRefused();
        aggregate();
        aggregateRefused();
        drop();
        dropMovesAll();
        dropRefused();
        safe();
        numbersOfRules();
        run();
        runWithCircle();
        stratum();
        stratumWithCircle();
        holds();
        round();
        roundSaidOrNot();
        counts();
        countsOfAggregates();
        countsFromAllThatHolds();
        countsWithCircle();
        row();
        rowAtTheEnds();
        size();
        refusedCallsChangeNothing();
        questionsChangeNothing();
        end();
    }

    private static void newObject() {
        says("1: No facts, no rules.");
        RuleEngine e = new RuleEngine();
        due(e.size(), 0);
        due(e.row(LOW), NO);
        due(e.row(-1), NO);
        due(e.run(), 0);
        due(e.safe(0), BAD);
        due(e.drop(0), BAD);
        for (int n = 0; n < 16; n++) {
            due(e.stratum(n), 0, n);
            due(e.holds(n, n, 2 * n), 0, n);
            due(e.round(n, 31, n), NO, n);
            due(e.counts(n, n, 31), 0, n);
            due(e.remove(n, n, n), 0, n);
        }
        for (int r = -1; r <= 16; r++) {
            for (int i = 0; i < OF_RULE.length; i++) {
                due(OF_RULE[i].ask(e, r), BAD, i, r);
            }
        }
        due(e.fact(0, 0, 0), 1);
        due(e.rule(0, 0, 0), 0);
        RuleEngine other = new RuleEngine();
        due(other.size(), 0);
        due(other.safe(0), BAD);
        due(e.size(), 1);
    }

    private static void fact() {
        says("2: A fact is said: 1; 0 when it was. BAD.");
        for (int name : NAMES) {
            for (int a : NUMBERS) {
                for (int b : NUMBERS) {
                    RuleEngine e = new RuleEngine();
                    due(e.fact(name, a, b), 1, name, a, b);
                    due(e.fact(name, a, b), 0, name, a, b);
                    due(e.holds(name, a, b), 1, name, a, b);
                    due(e.size(), 1, name, a, b);
                    e.remove(name, a, b);
                    due(e.fact(name, a, b), 1, name, a, b);
                }
            }
        }
        RuleEngine e = new RuleEngine();
        e.rule(3, 4, 5);
        due(e.holds(3, 4, 5), 2);
        due(e.fact(3, 4, 5), 1);
        due(e.fact(3, 4, 5), 0);
        due(e.fact(3, 5, 4), 1);
        due(e.fact(4, 3, 5), 1);
        e.drop(0);
        due(e.fact(3, 4, 5), 0);
        need(e, 3, 3, true);
        due(e.fact(3, 4, 5), 0);
        due(e.fact(3, 4, 6), 1);
        due(e.fact(16, 0, 0), BAD);
    }

    private static void remove() {
        says("3: A fact is said no more: 1; 0 when it was not. BAD.");
        for (int name : NAMES) {
            for (int a : NUMBERS) {
                for (int b : NUMBERS) {
                    RuleEngine e = new RuleEngine();
                    due(e.remove(name, a, b), 0, name, a, b);
                    e.fact(name, a, b);
                    e.fact(name, b, 31 - a);
                    due(e.remove(name, a, b), 1, name, a, b);
                    due(e.remove(name, a, b), 0, name, a, b);
                    due(e.holds(name, a, b), 0, name, a, b);
                    due(e.size(), 1, name, a, b);
                }
            }
        }
        // those that share a number with it stay, from whichever side a rule looks at them
        RuleEngine shared = new RuleEngine();
        int[][] others = {{4, 4}, {5, 5}, {4, 0}, {0, 5}, {4, 31}, {31, 5}};
        for (int[] p : others) {
            shared.fact(3, p[0], p[1]);
        }
        shared.fact(3, 4, 5);
        ruleOf(shared, 1, 4, -1, 3, 4, -1);
        ruleOf(shared, 1, -1, 5, 3, -1, 5);
        due(shared.size(), 7 + 7);
        due(shared.remove(3, 4, 5), 1);
        due(shared.size(), 6 + 6);
        for (int[] p : others) {
            due(shared.holds(1, p[0], p[1]), 2, p);
        }
        RuleEngine e = new RuleEngine();
        e.rule(3, 4, 5);
        due(e.remove(3, 4, 5), 0);
        due(e.fact(3, 4, 5), 1);
        due(e.remove(3, 4, 5), 1);
        due(e.holds(3, 4, 5), 2);
        due(e.remove(3, 4, 5), 0);
        e.fact(3, 5, 4);
        need(e, 0, 0, true);
        due(e.remove(3, 4, 5), 0);
        due(e.remove(3, 5, 4), 1);
        due(e.remove(15, 0, 32), BAD);
    }

    private static void rule() {
        says("4: A rule with this head and no parts: its number.");
        RuleEngine e = new RuleEngine();
        for (int turn = 0; turn < 3; turn++) {
            for (int i = 0; i < 16; i++) {
                due(e.rule(15, 31, i), i, turn);
                due(e.holds(15, 31, i), 2, turn, i);
                due(e.body(i, 7, -1, -2, true), 1, turn, i);
                due(e.aggregate(i, 3, -6), 1, turn, i);
            }
            for (int i = 15; i >= 0; i--) {
                due(e.drop(i), i, turn);
            }
        }
    }

    private static void ruleRefused() {
        says("4: BAD; FULL.");
        RuleEngine e = new RuleEngine();
        for (int i = 0; i < 16; i++) {
            for (int bad : BAD_NAMES) {
                due(e.rule(bad, 0, 0), BAD, i, bad);
            }
            for (int bad : BAD_ITEMS) {
                due(e.rule(15, bad, -6), BAD, i, bad);
                due(e.rule(0, -6, bad), BAD, i, bad);
            }
            due(e.safe(i), BAD);
            due(e.rule(15, 31, i), i);
        }
        due(e.rule(0, 0, 0), FULL);
        due(e.rule(15, 31, 31), FULL);
        due(e.rule(15, -6, 31), FULL);
        due(e.safe(16), BAD);
        due(e.size(), 16);
        due(e.drop(15), 15);
        due(e.rule(0, 0, 0), 15);
        due(e.rule(0, 0, 0), FULL);
        due(e.drop(0), 15);
        due(e.rule(0, 0, 1), 15);
        due(e.size(), 16);
    }

    private static void body() {
        says("5: A rule has a part more: how many.");
        RuleEngine e = new RuleEngine();
        for (int r = 0; r < 16; r++) {
            e.rule(r, 0, 0);
        }
        for (int i = 1; i <= 5; i++) {
            for (int r = 0; r < 16; r++) {
                due(e.body(r, r % 2 == 0 ? 15 : 0, ITEMS[i % 4], ITEMS[r % 4], i % 2 == 0), i, r);
            }
        }
        RuleEngine mixed = new RuleEngine();
        mixed.rule(0, 0, 0);
        due(mixed.filter(0, 0, 0, 1), 1);
        due(mixed.body(0, 0, 0, 0, true), 2);
        due(mixed.filter(0, 2, 30, 31), 3);
        due(mixed.body(0, 15, 31, 31, false), 4);
        due(mixed.aggregate(0, 0, -1), 1);
        due(mixed.body(0, 15, 31, 31, false), 5);
    }

    private static void bodyRefused() {
        says("5: BAD when there is no such rule, name or item");
        for (int not = 0; not < 2; not++) {
            RuleEngine e = new RuleEngine();
            e.rule(0, 0, 0);
            for (int parts = 0; parts < 6; parts++) {
                for (int bad : BAD_NAMES) {
                    due(e.body(0, bad, 0, 0, not == 1), BAD, parts, bad);
                }
                for (int bad : BAD_ITEMS) {
                    due(e.body(0, 15, bad, -6, not == 1), BAD, parts, bad);
                    due(e.body(0, 0, 31, bad, not == 1), BAD, parts, bad);
                }
                for (int bad : new int[] {LOW, -1, 1, 15, 16, HIGH}) {
                    due(e.body(bad, 0, 0, 0, not == 1), BAD, parts, bad);
                }
                due(e.body(0, 15, -6, 31, not == 1), parts < 5 ? parts + 1 : FULL, parts);
            }
        }
    }

    private static void bodyFull() {
        says("5: FULL when it has five.");
        RuleEngine e = new RuleEngine();
        e.fact(0, 0, 0);
        int r = ruleOf(e, 1, 2, 2, 0, 0, 0, 0, 0, 0, 0, 0, 0, 0, 0, 0);
        due(e.body(r, 0, 0, 0, false), 5);
        for (int i = 0; i < 3; i++) {
            due(e.body(r, 9, 9, 9, false), FULL);
            due(e.body(r, 0, 0, 0, true), FULL);
            due(e.body(r, 1, -1, -2, true), FULL);
        }
        due(e.holds(1, 2, 2), 2);
        due(e.counts(1, 2, 2), 1);
        due(e.safe(r), 1);
        due(e.run(), 1);
        int other = e.rule(1, 3, 3);
        due(e.body(other, 0, 0, 0, false), 1);
        due(e.drop(r), 1);
        due(e.body(0, 0, 0, 0, false), 2);
    }

    private static void filter() {
        says("6: Likewise a filter (does 0, 1, 2).");
        for (int does = 0; does < 3; does++) {
            RuleEngine e = new RuleEngine();
            e.rule(0, 0, 0);
            for (int i = 1; i <= 5; i++) {
                due(e.filter(0, does, ITEMS[i % 4], ITEMS[(i + does) % 4]), i, does);
            }
            due(e.filter(0, does, 0, 0), FULL, does);
            due(e.filter(0, (does + 1) % 3, -6, 31), FULL, does);
            due(e.body(0, 0, 0, 0, false), FULL, does);
        }
        // numbers alone: one filter more that is not so, and the rule gives no more
        for (int does = 0; does < 3; does++) {
            RuleEngine e = new RuleEngine();
            e.rule(1, 5, 6);
            for (int i = 1; i <= 4; i++) {
                due(e.filter(0, does, 30, 31), i, does);
                due(e.counts(1, 5, 6), 1, does);
            }
            due(e.filter(0, does, 31, does == 1 ? 31 : 0), 5, does);
            due(e.counts(1, 5, 6), 0, does);
            due(e.holds(1, 5, 6), 0, does);
        }
    }

    private static void filterRefused() {
        says("6: BAD when there is no such rule, does or item; FULL when it has five");
        RuleEngine e = new RuleEngine();
        e.rule(0, 0, 0);
        for (int parts = 0; parts < 6; parts++) {
            for (int bad : new int[] {LOW, -2, -1, 3, 4, HIGH}) {
                due(e.filter(0, bad, 0, 0), BAD, parts, bad);
            }
            for (int does = 0; does < 3; does++) {
                for (int bad : BAD_ITEMS) {
                    due(e.filter(0, does, bad, -6), BAD, parts, bad);
                    due(e.filter(0, does, 31, bad), BAD, parts, bad);
                }
                for (int bad : new int[] {LOW, -1, 1, 15, 16, HIGH}) {
                    due(e.filter(bad, does, 0, 0), BAD, parts, bad);
                }
            }
            due(e.filter(0, parts % 3, -6, 31), parts < 5 ? parts + 1 : FULL, parts);
        }
    }

    private static void aggregate() {
        says("7: A rule has an aggregate (kind 0 .. 3) of a variable, or (kind -1) none: 1.");
        RuleEngine e = new RuleEngine();
        e.fact(0, 3, 7);
        e.fact(0, 3, 9);
        int r = ruleOf(e, 1, -1, -2, 0, -1, -2);
        int[] want = {2, 16, 7, 9};
        for (int kind = 0; kind < 4; kind++) {
            due(e.size(), 4, kind);
            due(e.aggregate(r, kind, -2), 1, kind);
            due(e.aggregate(r, kind, -2), 1, kind);
            due(e.size(), 3, kind);
            due(e.row(1023), 1024 + 3 * 32 + want[kind], kind);
            due(e.aggregate(r, kind, -1), 1, kind);
            due(e.row(1023), 1024 + 3 * 32 + (kind == 0 ? 2 : kind == 1 ? 6 : 3), kind);
            due(e.aggregate(r, -1, -1), 1, kind);
            due(e.aggregate(r, -1, -6), 1, kind);
        }
        // no aggregate has no variable, so any is as good as another
        for (int v : new int[] {LOW, -7, 0, 31, HIGH}) {
            due(e.aggregate(r, 0, -2), 1, v);
            due(e.aggregate(r, -1, v), 1, v);
            due(e.safe(r), 1, v);
            due(e.size(), 4, v);
        }
    }

    private static void aggregateRefused() {
        says("7: BAD.");
        RuleEngine e = new RuleEngine();
        e.fact(0, 3, 7);
        int r = ruleOf(e, 1, -1, 0, 0, -1, -2, 0, -1, -2, 0, -1, -2, 0, -1, -2, 0, -1, -2);
        due(e.aggregate(r, 3, -2), 1);
        for (int bad : new int[] {LOW, -3, -2, 4, 5, HIGH}) {
            due(e.aggregate(r, bad, -1), BAD, bad);
        }
        for (int kind = 0; kind < 4; kind++) {
            for (int bad : new int[] {LOW, -8, -7, 0, 1, 31, HIGH}) {
                due(e.aggregate(r, kind, bad), BAD, kind, bad);
            }
            for (int bad : new int[] {LOW, -1, 1, 15, 16, HIGH}) {
                due(e.aggregate(bad, kind, -1), BAD, kind, bad);
            }
        }
        due(e.aggregate(1, -1, -1), BAD);
        due(e.aggregate(-1, -1, -1), BAD);
        due(e.row(1023), 1024 + 3 * 32 + 7);
        for (int v : new int[] {-1, -6}) {
            due(e.aggregate(r, 0, v), 1, v);
            due(e.aggregate(r, 3, v), 1, v);
        }
    }

    /** Sixteen rules, each of a name of its own, with name % 5 parts that are so. */
    private static RuleEngine sixteenRules() {
        RuleEngine e = new RuleEngine();
        for (int n = 0; n < 16; n++) {
            int r = e.rule(n, n, n);
            for (int i = 0; i < n % 5; i++) {
                e.filter(r, 1, 0, 1 + i);
            }
        }
        return e;
    }

    private static void drop() {
        says("8: A rule goes");
        for (int gone = 0; gone < 16; gone++) {
            RuleEngine e = sixteenRules();
            due(e.size(), 16, gone);
            due(e.drop(gone), 15, gone);
            due(e.size(), 15, gone);
            for (int n = 0; n < 16; n++) {
                due(e.holds(n, n, n), n == gone ? 0 : 2, gone, n);
            }
        }
        says("8: how many are left");
        RuleEngine e = sixteenRules();
        for (int left = 15; left >= 0; left--) {
            due(e.drop(left * 7 % (left + 1)), left);
            due(e.size(), left);
        }
        due(e.drop(0), BAD);
    }

    private static void dropMovesAll() {
        says("8: the numbers of those behind it are one less");
        for (int gone = 0; gone < 16; gone++) {
            RuleEngine e = sixteenRules();
            e.drop(gone);
            for (int r = 0; r < 15; r++) {
                int name = r < gone ? r : r + 1;
                due(e.filter(r, 1, 0, 9), name % 5 + 1, gone, r);
                due(e.filter(r, 1, -1, 0), name % 5 == 4 ? FULL : name % 5 + 2, gone, r);
                due(e.safe(r), name % 5 == 4 ? 1 : 0, gone, r);
                due(e.holds(name, name, name), name % 5 == 4 ? 2 : 0, gone, r);
            }
            due(e.safe(15), BAD, gone);
        }
        RuleEngine e = new RuleEngine();
        e.fact(0, 1, 5);
        e.fact(0, 1, 6);
        e.rule(1, 0, 0);
        e.aggregate(ruleOf(e, 2, -1, -2, 0, -1, -2), 3, -2);
        ruleOf(e, 3, -2, -1, 0, -1, -2);
        due(e.drop(0), 2);
        due(e.holds(2, 1, 5), 0);
        due(e.holds(2, 1, 6), 2);
        due(e.holds(3, 5, 1), 2);
        due(e.aggregate(0, -1, -1), 1);
        due(e.holds(2, 1, 5), 2);
        due(e.drop(1), 1);
        due(e.holds(3, 5, 1), 0);
        due(e.holds(2, 1, 5), 2);
    }

    private static void dropRefused() {
        says("8: BAD.");
        for (int count = 0; count <= 16; count++) {
            RuleEngine e = new RuleEngine();
            for (int r = 0; r < count; r++) {
                e.rule(r, r, r);
            }
            for (int bad : new int[] {LOW, -2, -1, count, count + 1, 16, 17, HIGH}) {
                due(e.drop(bad), BAD, count, bad);
            }
            due(e.size(), count);
            due(e.drop(count - 1), count > 0 ? count - 1 : BAD, count);
            due(e.drop(count - 1), BAD, count);
        }
    }

    private static void safe() {
        says("9: Whether a rule is SAFE: 1 or 0; BAD.");
        for (int count = 1; count <= 16; count++) {
            RuleEngine e = new RuleEngine();
            for (int r = 0; r < count; r++) {
                e.rule(15, r % 3 == 0 ? -6 : 31, r % 2 == 0 ? 0 : -1);
            }
            for (int r = 0; r < count; r++) {
                due(e.safe(r), r % 3 != 0 && r % 2 == 0 ? 1 : 0, count, r);
            }
            for (int bad : new int[] {LOW, -1, count, 16, HIGH}) {
                due(e.safe(bad), BAD, count, bad);
            }
        }
        RuleEngine e = new RuleEngine();
        int r = need(e, 0, 0, true);
        due(e.run(), -10);
        due(e.safe(r), 1);
        e.body(r, 0, -1, -1, true);
        due(e.safe(r), 0);
        due(e.run(), 0);
    }

    private static void numbersOfRules() {
        says("5 to 9: no such rule");
        for (int count : new int[] {0, 1, 2, 15, 16}) {
            for (int i = 0; i < OF_RULE.length; i++) {
                RuleEngine e = new RuleEngine();
                for (int r = 0; r < count; r++) {
                    e.rule(r, 0, 0);
                }
                for (int r = 0; r < count; r++) {
                    due(OF_RULE[i].ask(e, r), 1, count, i, r);
                }
                for (int bad : new int[] {LOW, -2, -1, count, count + 1, 16, 17, HIGH}) {
                    due(OF_RULE[i].ask(e, bad), BAD, count, i, bad);
                }
                e.drop(0);
                due(OF_RULE[i].ask(e, count - 1), BAD, count, i);
            }
        }
    }

    private static void run() {
        says("10: How many rounds gave something, of all strata");
        RuleEngine e = new RuleEngine();
        due(e.run(), 0);
        e.fact(0, 1, 1);
        due(e.run(), 0);
        e.rule(0, 1, 1);
        due(e.run(), 0);
        e.rule(0, 1, 2);
        due(e.run(), 1);
        e.rule(0, 1, 3);
        due(e.run(), 1);
        ruleOf(e, 1, -1, -1, 0, -1, 3);
        due(e.run(), 2);
        e.fact(0, 1, 3);
        due(e.run(), 1);
        // one stratum more with each name, each with a round of its own
        RuleEngine up = new RuleEngine();
        for (int n = 1; n < 16; n++) {
            int r = up.rule(n, n, n);
            up.body(r, n - 1, 0, 0, true);
            due(up.run(), n);
            due(up.stratum(n), n);
        }
        up.fact(9, 9, 9);
        due(up.run(), 14);
        up.fact(4, 0, 0);
        due(up.run(), 13);
    }

    private static void runWithCircle() {
        says("10: or -10 less the least name at which there is a circle.");
        RuleEngine e = new RuleEngine();
        e.fact(0, 1, 1);
        for (int n = 15; n >= 0; n--) {
            due(e.run(), n == 15 ? 0 : -10 - (n + 1));
            need(e, n, n, true);
            due(e.run(), -10 - n);
        }
        for (int n = 0; n < 16; n++) {
            due(e.run(), -10 - n);
            due(e.drop(15 - n), 15 - n);
        }
        due(e.run(), 0);
    }

    private static void stratum() {
        says("11: The stratum of a name; BAD.");
        RuleEngine e = new RuleEngine();
        for (int n = 1; n < 16; n++) {
            need(e, n, n - 1, n % 2 == 1);
        }
        for (int n = 0; n < 16; n++) {
            due(e.stratum(n), (n + 1) / 2, n);
        }
        for (int bad : BAD_NAMES) {
            due(e.stratum(bad), BAD, bad);
        }
    }

    private static void stratumWithCircle() {
        says("11: NO when there is a circle (at any name); BAD.");
        for (int at = 0; at < 16; at++) {
            RuleEngine e = new RuleEngine();
            int r = need(e, at, at, true);
            for (int n = 0; n < 16; n++) {
                due(e.stratum(n), NO, at, n);
            }
            for (int bad : BAD_NAMES) {
                due(e.stratum(bad), BAD, at, bad);
            }
            e.drop(r);
            due(e.stratum(at), 0, at);
        }
    }

    private static void holds() {
        says("12: Of a fact: 0 when it does not hold, 1 when it was said, 2 when it holds alone. BAD.");
        for (int name : NAMES) {
            for (int a : NUMBERS) {
                for (int b : NUMBERS) {
                    RuleEngine e = new RuleEngine();
                    due(e.holds(name, a, b), 0, name, a, b);
                    e.rule(name, a, b);
                    due(e.holds(name, a, b), 2, name, a, b);
                    e.fact(name, a, b);
                    due(e.holds(name, a, b), 1, name, a, b);
                    e.drop(0);
                    due(e.holds(name, a, b), 1, name, a, b);
                    e.remove(name, a, b);
                    due(e.holds(name, a, b), 0, name, a, b);
                }
            }
        }
        RuleEngine e = new RuleEngine();
        e.rule(0, 0, 0);
        for (int bad : BAD_NUMBERS) {
            due(e.holds(0, bad, 0), BAD, bad);
            due(e.holds(0, 0, bad), BAD, bad);
        }
        for (int bad : BAD_NAMES) {
            due(e.holds(bad, 0, 0), BAD, bad);
        }
    }

    private static void round() {
        says("13: The round of its stratum (from 1) in which a fact came that was not said");
        RuleEngine e = new RuleEngine();
        sayTwins(e, 0, 32);
        e.fact(1, 0, 0);
        e.filter(ruleOf(e, 1, -2, 0, 1, -1, 0, 0, -2, -2), 2, -1, -2);
        e.body(ruleOf(e, 15, 31, -1, 1, -1, 0), 2, 0, 0, true);
        e.filter(ruleOf(e, 15, -2, 31, 15, -1, 31, 0, -2, -2), 2, -2, -1);
        for (int n = 1; n < 32; n++) {
            due(e.round(1, n, 0), n, n);
            due(e.round(15, 31, n), 1, n);
            due(e.round(15, n, 31), 32 - n, n);
        }
        due(e.round(15, 0, 31), 32);
        due(e.run(), 31 + 32);
        // a shorter way makes it sooner, the first round is told and no later one
        ruleOf(e, 1, 20, 0, 1, 3, 0);
        due(e.round(1, 20, 0), 4);
        due(e.round(1, 19, 0), 19);
        due(e.round(1, 21, 0), 5);
    }

    private static void roundSaidOrNot() {
        says("13: 0 when it was; NO when it does not hold. BAD.");
        for (int name : NAMES) {
            for (int a : NUMBERS) {
                for (int b : NUMBERS) {
                    RuleEngine e = new RuleEngine();
                    due(e.round(name, a, b), NO, name, a, b);
                    e.fact(name, a, b);
                    due(e.round(name, a, b), 0, name, a, b);
                    e.rule(name, a, b);
                    due(e.round(name, a, b), 0, name, a, b);
                    e.remove(name, a, b);
                    due(e.round(name, a, b), 1, name, a, b);
                    e.drop(0);
                    due(e.round(name, a, b), NO, name, a, b);
                }
            }
        }
        RuleEngine e = new RuleEngine();
        e.fact(0, 0, 0);
        e.rule(1, 1, 1);
        due(e.round(1, 1, 1), 1);
        need(e, 7, 7, true);
        due(e.round(1, 1, 1), NO);
        due(e.round(0, 0, 0), 0);
        due(e.round(0, 0, 32), BAD);
        due(e.round(0, -1, 0), BAD);
        due(e.round(-1, 0, 0), BAD);
        due(e.round(16, 0, 0), BAD);
    }

    private static void counts() {
        says("14: By how many cases of rules without .. a fact is given. BAD.");
        for (int ones : new int[] {0, 1, 2, 31, 32}) {
            RuleEngine e = new RuleEngine();
            sayTwins(e, 0, ones);
            ruleOf(e, 15, 31, 31, 0, -1, -1, 0, -2, -2);
            ruleOf(e, 15, -1, 31, 0, -1, -1, 0, -2, -2);
            due(e.counts(15, 31, 31), ones * ones + (ones == 32 ? 32 : 0), ones);
            due(e.counts(15, 0, 31), ones, ones);
            due(e.counts(15, 31, 0), 0, ones);
            due(e.counts(0, 0, 0), 0, ones);
        }
        RuleEngine e = new RuleEngine();
        for (int r = 0; r < 16; r++) {
            e.rule(15, 31, 0);
            due(e.counts(15, 31, 0), r + 1);
        }
        e.fact(15, 31, 0);
        due(e.counts(15, 31, 0), 16);
        for (int bad : BAD_NAMES) {
            due(e.counts(bad, 31, 0), BAD, bad);
        }
        for (int bad : BAD_NUMBERS) {
            due(e.counts(15, bad, 0), BAD, bad);
            due(e.counts(15, 31, bad), BAD, bad);
        }
    }

    private static void countsOfAggregates() {
        says("14: and by how many rules with an aggregate");
        for (int kind = 0; kind < 4; kind++) {
            RuleEngine e = new RuleEngine();
            e.fact(0, 6, 2);
            e.fact(0, 6, 4);
            e.fact(0, 7, 2);
            int[] want = {2, 6, 2, 4};
            for (int r = 1; r <= 8; r++) {
                e.aggregate(ruleOf(e, 1, -1, 0, 0, -1, -2), kind, -2);
                due(e.counts(1, 6, want[kind]), r, kind);
                due(e.counts(1, 6, 31), 0, kind);
                due(e.counts(1, 7, kind == 0 ? 1 : 2), r, kind);
                due(e.counts(1, 8, 0), 0, kind);
            }
            for (int n : NUMBERS) {
                e.fact(2, n, n);
                e.aggregate(ruleOf(e, 3 + n / 31, n, -1, 2, -2, n), kind, -2);
                due(e.counts(3 + n / 31, n, kind == 0 ? 1 : n), 1, kind, n);
            }
            ruleOf(e, 1, 6, want[kind], 0, -1, -2);
            due(e.counts(1, 6, want[kind]), 8 + 3, kind);
            e.fact(1, 6, want[kind]);
            due(e.counts(1, 6, want[kind]), 8 + 3, kind);
        }
    }

    private static void countsFromAllThatHolds() {
        says("14: a fact is given from all that holds");
        // each pair of five numbers holds at last, so each comes by every number between
        RuleEngine e = new RuleEngine();
        for (int n = 0; n < 5; n++) {
            e.fact(1, n, (n + 1) % 5);
        }
        ruleOf(e, 1, -1, -3, 1, -1, -2, 1, -2, -3);
        for (int n = 0; n < 5; n++) {
            due(e.counts(1, 0, n), 5, n);
            due(e.counts(1, n, 5), 0, n);
        }
        RuleEngine self = new RuleEngine();
        ruleOf(self, 1, -1, -2, 1, -1, -2);
        due(self.counts(1, 3, 3), 0);
        self.fact(1, 3, 3);
        due(self.counts(1, 3, 3), 1);
        self.remove(1, 3, 3);
        due(self.counts(1, 3, 3), 0);
    }

    private static void countsWithCircle() {
        says("14: (0 with a circle)");
        RuleEngine e = new RuleEngine();
        e.fact(0, 1, 1);
        e.fact(1, 1, 1);
        ruleOf(e, 1, -1, -1, 0, -1, -1);
        e.aggregate(ruleOf(e, 1, -1, -1, 0, -1, -1), 0, -1);
        for (int at = 0; at < 16; at++) {
            due(e.counts(1, 1, 1), 2, at);
            int r = need(e, at, at, true);
            due(e.counts(1, 1, 1), 0, at);
            due(e.counts(0, 1, 1), 0, at);
            due(e.counts(1, 1, 32), BAD, at);
            due(e.counts(16, 1, 1), BAD, at);
            e.drop(r);
        }
        due(e.counts(1, 1, 1), 2);
    }

    private static void row() {
        says("15: The least CODE above n of a fact that holds");
        RuleEngine e = new RuleEngine();
        int[] codes = {0, 1, 31, 32, 63, 64, 1023, 1024, 1055, 5000, 16351, 16352, 16382, 16383};
        for (int i = 0; i < codes.length; i++) {
            int name = codes[i] / 1024;
            if (i % 2 == 0) {
                e.fact(name, codes[i] / 32 % 32, codes[i] % 32);
            } else {
                e.rule(name, codes[i] / 32 % 32, codes[i] % 32);
            }
        }
        int below = -1;
        for (int code : codes) {
            due(e.row(below), code, below);
            due(e.row(code - 1), code, below);
            due(e.row((below + code) >> 1) > below ? 1 : 0, 1, below);
            below = code;
        }
        due(e.row(16383), NO);
    }

    private static void rowAtTheEnds() {
        says("15: NO when there is none.");
        RuleEngine e = new RuleEngine();
        int[] all = {LOW, LOW + 1, -1025, -33, -32, -2, -1, 0, 31, 1024, 16382, 16383, 16384, 16415,
            HIGH - 1, HIGH};
        for (int n : all) {
            due(e.row(n), NO, n);
        }
        e.fact(0, 0, 0);
        for (int n : all) {
            due(e.row(n), n < 0 ? 0 : NO, n);
        }
        e.remove(0, 0, 0);
        e.rule(15, 31, 31);
        for (int n : all) {
            due(e.row(n), n < 16383 ? 16383 : NO, n);
        }
        need(e, 3, 3, true);
        for (int n : all) {
            due(e.row(n), NO, n);
        }
    }

    private static void size() {
        says("16: How many facts hold.");
        RuleEngine e = new RuleEngine();
        due(e.size(), 0);
        sayTwins(e, 0, 32);
        due(e.size(), 32);
        for (int n = 15; n >= 0; n--) {
            ruleOf(e, n, -1, -2, 0, -1, -1, 0, -2, -2);
            due(e.size(), 32 * (n > 0 ? 1 : 32) + (n > 0 ? 16 - n : 15) * 1024, n);
        }
        due(e.size(), 16384);
        due(e.row(16382), 16383);
        due(e.run(), 1);
        due(e.fact(15, 0, 31), 1);
        due(e.size(), 16384);
        due(e.remove(0, 0, 0), 1);
        due(e.size(), 31 * 31 * 16 + 1);
        e.body(3, 0, 31, 31, true);
        due(e.size(), 31 * 31 * 16 + 1 - 31 * 31);
        e.body(15, 1, 0, 0, true);
        e.body(14, 0, 0, 0, false);
        due(e.size(), 32);
    }

    /** A state with a rule of five parts; with all sixteen rules, or with a circle, or neither. */
    private static RuleEngine prepared(int state) {
        RuleEngine e = new RuleEngine();
        e.fact(0, 1, 2);
        e.fact(0, 2, 3);
        e.fact(0, 31, 0);
        ruleOf(e, 1, -1, -2, 0, -1, -2, 0, -1, -2, 0, -1, -2, 0, -1, -2, 0, -1, -2);
        ruleOf(e, 1, -1, -3, 1, -1, -2, 1, -2, -3);
        e.aggregate(ruleOf(e, 2, -1, 0, 1, -1, -2), 1, -2);
        if (state == 1) {
            need(e, 4, 4, true);
        }
        for (int r = 3; state == 2 && r < 16; r++) {
            e.rule(r, r, r);
        }
        return e;
    }

    private static int[] refused(RuleEngine e) {
        return new int[] {
            e.fact(16, 1, 1), e.fact(-1, 1, 1), e.fact(0, 32, 1), e.fact(0, -1, 1), e.fact(0, 1, 32),
            e.fact(0, 1, -1), e.remove(16, 1, 2), e.remove(-1, 1, 2), e.remove(0, 33, 2),
            e.remove(0, 1, 34), e.remove(0, -1, 0), e.rule(16, 0, 0), e.rule(-1, 0, 0), e.rule(0, -7, 0),
            e.rule(0, 0, 32), e.body(0, 16, 0, 0, true), e.body(1, -1, 0, 0, true), e.body(1, 0, -7, 0, true),
            e.body(1, 0, 0, 32, true), e.body(-1, 0, 0, 0, true), e.body(16, 0, 0, 0, true),
            e.filter(1, -1, 0, 0), e.filter(1, 3, 0, 0), e.filter(1, 4, 0, 0), e.filter(1, 0, 32, 0),
            e.filter(1, 0, 0, -7), e.filter(-1, 0, 0, 0), e.filter(16, 0, 0, 0), e.aggregate(2, 4, -2),
            e.aggregate(2, -2, -2), e.aggregate(2, 0, 0), e.aggregate(2, 0, -7), e.aggregate(1, 0, 1),
            e.aggregate(-1, 0, -1), e.aggregate(16, -1, -1), e.drop(-1), e.drop(16), e.drop(HIGH), e.safe(-1),
            e.safe(16), e.stratum(-1), e.stratum(16), e.holds(0, 32, 0), e.round(0, 0, -1), e.counts(16, 0, 0)};
    }

    private static void refusedCallsChangeNothing() {
        says("2 to 14: BAD; FULL");
        for (int state = 0; state < 3; state++) {
            RuleEngine e = prepared(state);
            int i = 0;
            for (int answer : refused(e)) {
                due(answer, BAD, state, i++);
            }
            due(e.body(0, 0, 5, 5, false), FULL, state);
            due(e.filter(0, 0, 5, 5), FULL, state);
            due(e.rule(9, 9, 9), state == 2 ? FULL : 3 + state, state);
            RuleEngine twin = prepared(state);
            twin.rule(9, 9, 9);
            sameAnswers(e, twin, state);
            due(e.body(1, 0, 0, 0, false), 3, state);
            due(e.body(2, 0, 0, 0, false), 2, state);
        }
    }

    /** All questions, again and again from another one on, so that each of them comes first once. */
    private static void askAll(RuleEngine e, int from) {
        for (int i = from; i < from + 8; i++) {
            switch (i % 8) {
                case 0 -> e.run();
                case 1 -> e.size();
                case 2 -> e.row(2000 * from - 1);
                case 3 -> e.safe(from % 3);
                case 4 -> e.stratum(from);
                case 5 -> e.holds(1, from, from + 1);
                case 6 -> e.round(1, 1, 3);
                default -> e.counts(2, 1, from);
            }
        }
    }

    private static void questionsChangeNothing() {
        says("Nothing is promised beyond the answers and state changes described above");
        for (int state = 0; state < 3; state++) {
            for (int from = 0; from < 8; from++) {
                RuleEngine asked = prepared(state);
                RuleEngine twin = prepared(state);
                askAll(asked, from);
                askAll(asked, 7 - from);
                due(asked.fact(0, 3, from), twin.fact(0, 3, from), state, from);
                askAll(asked, from);
                due(asked.body(1, 0, -3, -4, false), twin.body(1, 0, -3, -4, false), state, from);
                askAll(asked, from);
                due(asked.remove(1, 1, 2), 0, state, from);
                due(asked.drop(2), twin.drop(2), state, from);
                sameAnswers(asked, twin, state);
            }
        }
    }
}
