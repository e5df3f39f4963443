/** The sentences under "What it is" and "Terms", each with the inputs on both sides of its bounds. */
public final class TermsTest extends Sentences {
    private static final int COUNT = 0;
    private static final int SUM = 1;
    private static final int LEAST = 2;
    private static final int GREATEST = 3;

    public static void main(String[] args) {
        calls();
        facts();
        codes();
        items();
        sixVariables();
        rules();
        heads();
        parts();
        nots();
        filters();
        aggregates();
        safeRules();
        safeAggregates();
        unsafeRules();
        unsafeRulesCountNowhere();
        cases();
        casesOfAllParts();
        headsOfCases();
        aggregateOfEachNumber();
        countModulo();
        sumModulo();
        leastAndGreatest();
        secondItem();
        needs();
        strictNeeds();
        circles();
        circlesByWayOfOthers();
        strata();
        strataOfManyWays();
        whatHolds();
        rounds();
        roundsEnd();
        saidAlone();
        end();
    }

    private static void calls() {
        says("An object is used for at most 512 calls after it has been made");
        RuleEngine e = new RuleEngine();
        ruleOf(e, 1, -1, -2, 0, -1, -2);
        ruleOf(e, 1, -1, -3, 1, -1, -2, 0, -2, -3);
        for (int i = 0; i < 126; i++) {
            due(e.fact(0, i % 31, i % 31 + 1), 1, i);
            due(e.run(), 1, i);
            due(e.remove(0, i % 31, i % 31 + 1), 1, i);
            due(e.size(), 0, i);
        }
        due(e.fact(15, 31, 31), 1);
        due(e.row(-1), 16383);
        due(e.size(), 1);
        callsBeyond(e);
        RuleEngine full = new RuleEngine();
        for (int i = 0; i < 511; i++) {
            due(full.fact(i % 16, i / 16, 31 - i / 16), 1, i);
        }
        due(full.size(), 511);
    }

    /** After the 512th call all answers are free, but that one comes is due (LANGUAGE.md, 7). */
    private static void callsBeyond(RuleEngine e) {
        for (int i = 0; i < 300; i++) {
            for (OfFact call : OF_FACT) {
                call.ask(e, i % 18 - 1, i % 34 - 1, i % 35 - 1);
            }
            for (OfItems call : OF_ITEMS) {
                call.ask(e, i % 41 - 8, i % 43 - 8);
            }
            for (OfRule call : OF_RULE) {
                call.ask(e, i % 19 - 1);
            }
            e.drop(i % 23 - 3);
            e.row(i * 60);
            e.stratum(i % 18 - 1);
        }
    }

    private static void facts() {
        says("FACTS are (name, a, b), name 0 .. 15, a and b 0 .. 31");
        for (int i = 0; i < OF_FACT.length; i++) {
            for (int name : NAMES) {
                for (int a : NUMBERS) {
                    for (int b : NUMBERS) {
                        due(OF_FACT[i].ask(new RuleEngine(), name, a, b), OF_NO_FACT[i], i, name, a, b);
                    }
                }
            }
            RuleEngine e = new RuleEngine();
            for (int bad : BAD_NAMES) {
                due(OF_FACT[i].ask(e, bad, 0, 0), BAD, i, bad);
                due(OF_FACT[i].ask(e, bad, 31, 31), BAD, i, bad);
            }
            for (int bad : BAD_NUMBERS) {
                due(OF_FACT[i].ask(e, 0, bad, 0), BAD, i, bad);
                due(OF_FACT[i].ask(e, 15, 0, bad), BAD, i, bad);
                due(OF_FACT[i].ask(e, 7, bad, bad), BAD, i, bad);
            }
            due(e.size(), 0, i);
        }
        RuleEngine e = new RuleEngine();
        e.fact(2, 1, 0);
        due(e.holds(2, 0, 32), BAD);
        due(e.holds(2, 0, 1), 0);
        due(e.holds(1, 2, 0), 0);
        due(e.holds(1, 33, 0), BAD);
        due(e.holds(2, 1, 0), 1);
    }

    private static void codes() {
        says("the CODE is 1024 name + 32 a + b");
        int[] some = {0, 1, 15, 16, 30, 31};
        for (int name : new int[] {0, 1, 8, 14, 15}) {
            for (int a : some) {
                for (int b : some) {
                    RuleEngine e = new RuleEngine();
                    e.fact(name, a, b);
                    due(e.row(-1), 1024 * name + 32 * a + b, name, a, b);
                }
            }
        }
    }

    private static void items() {
        says("An ITEM is a number 0 .. 31 or a VARIABLE -1 .. -6");
        for (int i = 0; i < OF_ITEMS.length; i++) {
            for (int x : ITEMS) {
                for (int y : ITEMS) {
                    RuleEngine e = new RuleEngine();
                    e.rule(0, 0, 0);
                    due(OF_ITEMS[i].ask(e, x, y), 1, i, x, y);
                }
            }
            RuleEngine e = new RuleEngine();
            e.rule(0, 0, 0);
            for (int bad : BAD_ITEMS) {
                due(OF_ITEMS[i].ask(e, bad, 0), BAD, i, bad);
                due(OF_ITEMS[i].ask(e, -1, bad), BAD, i, bad);
                due(OF_ITEMS[i].ask(e, bad, bad), BAD, i, bad);
            }
            due(OF_ITEMS[i].ask(e, 0, 0), 1, i);
        }
        for (int item = -6; item <= 31; item++) {
            RuleEngine e = new RuleEngine();
            due(e.safe(e.rule(0, item, 0)), item < 0 ? 0 : 1, item);
            due(e.safe(e.rule(0, 31, item)), item < 0 ? 0 : 1, item);
            due(e.holds(0, item < 0 ? 5 : item, 0), item < 0 ? 0 : 2, item);
        }
    }

    /** Each of the six is itself and none of the others. */
    private static void sixVariables() {
        says("a VARIABLE -1 .. -6");
        for (int u = -6; u <= -1; u++) {
            for (int v = -6; v <= -1; v++) {
                RuleEngine e = new RuleEngine();
                e.fact(0, 0, 31);
                e.fact(0, 7, 7);
                ruleOf(e, 1, v, u, 0, u, v);
                due(e.holds(1, 31, 0), u == v ? 0 : 2, u, v);
                due(e.holds(1, 0, 31), 0, u, v);
                due(e.holds(1, 7, 7), 2, u, v);
            }
        }
        RuleEngine e = new RuleEngine();
        e.fact(0, 1, 2);
        e.fact(0, 3, 4);
        e.fact(0, 5, 6);
        ruleOf(e, 1, -6, -1, 0, -1, -2, 0, -3, -4, 0, -5, -6);
        due(e.counts(1, 2, 1), 3);
        due(e.size(), 3 + 9);
    }

    private static void rules() {
        says("RULES, at most 16, are numbered from 0");
        RuleEngine e = new RuleEngine();
        for (int i = 0; i < 16; i++) {
            due(e.rule(i, i, 31 - i), i);
        }
        due(e.rule(0, 9, 9), FULL);
        due(e.rule(15, -6, -6), FULL);
        due(e.safe(15), 1);
        due(e.safe(16), BAD);
        due(e.size(), 16);
        for (int i = 0; i < 16; i++) {
            due(e.holds(i, i, 31 - i), 2, i);
        }
    }

    private static void heads() {
        says("each has a HEAD (name, item, item)");
        int[][] pairs = {{-1, -2}, {-2, -1}, {-1, -1}, {-2, -2}, {0, -1}, {-2, 31}, {31, 0}};
        for (int[] p : pairs) {
            RuleEngine e = new RuleEngine();
            e.fact(0, 4, 9);
            ruleOf(e, 15, p[0], p[1], 0, -1, -2);
            int a = p[0] == -1 ? 4 : p[0] == -2 ? 9 : p[0];
            int b = p[1] == -1 ? 4 : p[1] == -2 ? 9 : p[1];
            due(e.row(1023), 15 * 1024 + 32 * a + b, p[0], p[1]);
            due(e.size(), 2, p[0], p[1]);
        }
    }

    /** A part of each kind that is so with (0, 0, 0) said, or that is not. */
    private static int addPart(RuleEngine e, int r, int kind, boolean so) {
        if (kind >= 3) {
            boolean not = kind == 4;
            return e.body(r, 0, so == not ? 9 : 0, 0, not);
        }
        return e.filter(r, kind, 30, so ? 31 : 30);
    }

    private static void parts() {
        says("up to five PARTS in a row");
        for (int kind = 0; kind < 5; kind++) {
            for (int at = -1; at < 5; at++) {
                RuleEngine e = new RuleEngine();
                e.fact(0, 0, 0);
                int r = e.rule(1, 7, 7);
                for (int i = 0; i < 5; i++) {
                    due(addPart(e, r, (kind + i) % 5, i != at), i + 1, kind, at, i);
                }
                due(e.holds(1, 7, 7), at < 0 ? 2 : 0, kind, at);
                due(addPart(e, r, kind, true), FULL, kind, at);
                due(addPart(e, r, kind, false), FULL, kind, at);
                due(e.holds(1, 7, 7), at < 0 ? 2 : 0, kind, at);
            }
        }
    }

    private static void nots() {
        says("a name and two items, perhaps with NOT");
        int[][] items = {{5, 6}, {-1, 6}, {5, -2}, {-1, -2}, {-2, -1}, {-1, -1}};
        for (int[] p : items) {
            RuleEngine e = new RuleEngine();
            e.fact(0, 5, 6);
            e.fact(0, 6, 5);
            e.fact(2, 5, 6);
            e.body(ruleOf(e, 1, -1, -2, 0, -1, -2), 2, p[0], p[1], false);
            e.body(ruleOf(e, 3, -1, -2, 0, -1, -2), 2, p[0], p[1], true);
            for (int a = 5; a <= 6; a++) {
                int x = p[0] == -1 ? a : p[0] == -2 ? 11 - a : p[0];
                int y = p[1] == -1 ? a : p[1] == -2 ? 11 - a : p[1];
                boolean said = x == 5 && y == 6;
                due(e.holds(1, a, 11 - a), said ? 2 : 0, p[0], p[1], a);
                due(e.holds(3, a, 11 - a), said ? 0 : 2, p[0], p[1], a);
            }
        }
    }

    private static boolean isSo(int does, int a, int b) {
        return does == 0 ? a < b : does == 1 ? a != b : b == a + 1;
    }

    private static void filters() {
        says("a FILTER (0 the first item is less than the second one, 1 they differ, "
                + "2 the second one is the first one and one more) of two items");
        int[][] pairs = {{0, 0}, {0, 1}, {1, 0}, {0, 2}, {2, 0}, {15, 16}, {16, 15}, {16, 16}, {29, 31},
            {30, 31}, {31, 30}, {31, 31}, {31, 0}, {0, 31}};
        int[] many = {31 * 32 / 2, 31 * 32, 31};
        for (int does = 0; does < 3; does++) {
            RuleEngine all = new RuleEngine();
            sayTwins(all, 0, 32);
            all.filter(ruleOf(all, 1, -1, -2, 0, -1, -1, 0, -2, -2), does, -1, -2);
            due(all.size(), 32 + many[does], does);
            for (int[] p : pairs) {
                int want = isSo(does, p[0], p[1]) ? 2 : 0;
                due(all.holds(1, p[0], p[1]), want, does, p[0], p[1]);
                due(filtered(does, p, p[0], p[1]), want, does, p[0], p[1]);
                due(filtered(does, p, -1, p[1]), want, does, p[0], p[1]);
                due(filtered(does, p, p[0], -2), want, does, p[0], p[1]);
            }
        }
    }

    /** Whether (1, 3, 3) holds by a filter of two items, where -1 is the pair's first and -2 its second. */
    private static int filtered(int does, int[] pair, int x, int y) {
        RuleEngine e = new RuleEngine();
        e.fact(0, pair[0], pair[1]);
        e.filter(ruleOf(e, 1, 3, 3, 0, -1, -2), does, x, y);
        return e.holds(1, 3, 3);
    }

    private static void aggregates() {
        says("perhaps an AGGREGATE (0 COUNT, 1 SUM, 2 LEAST, 3 GREATEST) of a variable");
        int[] want = {3, 1 + 6 + 8, 1, 8};
        for (int kind = 0; kind < 4; kind++) {
            for (int v = -6; v <= -1; v++) {
                RuleEngine e = new RuleEngine();
                e.fact(0, 9, 6);
                e.fact(0, 9, 1);
                e.fact(0, 9, 8);
                int r = ruleOf(e, 1, 5, 31, 0, 9, v);
                due(e.aggregate(r, kind, v), 1, kind, v);
                due(e.row(1023), 1024 + 32 * 5 + want[kind], kind, v);
                due(e.size(), 4, kind, v);
            }
        }
    }

    private static void safeRules() {
        says("A rule is SAFE when each variable of its head, of parts with NOT, of filters "
                + "stands in a part of it that is neither");
        for (int v = -6; v <= -1; v++) {
            for (int place = 0; place < 12; place++) {
                for (int help = 0; help < 8; help++) {
                    RuleEngine e = new RuleEngine();
                    int r = e.rule(1, place == 0 ? v : 0, place == 1 ? v : 31);
                    due(e.safe(r), place < 2 ? 0 : 1, v, place);
                    askFor(e, r, place, v);
                    due(e.safe(r), 0, v, place);
                    helpWith(e, r, help, v);
                    due(e.safe(r), help < 3 ? 1 : 0, v, place, help);
                }
            }
        }
        RuleEngine e = new RuleEngine();
        int r = ruleOf(e, 1, -1, -2, 0, -1, -3, 0, -4, -2);
        due(e.safe(r), 1);
        e.filter(r, 1, -3, -4);
        e.body(r, 0, -4, -1, true);
        due(e.safe(r), 1);
        e.body(r, 0, -5, -1, true);
        due(e.safe(r), 0);
    }

    /** From place 2 on: a variable in a part with NOT or a filter, first, second or both. */
    private static void askFor(RuleEngine e, int r, int place, int v) {
        int x = place % 2 == 0 || place >= 10 ? v : 5;
        int y = place % 2 == 1 || place >= 10 ? v : 5;
        if (place == 2 || place == 3 || place == 10) {
            e.body(r, 2, x, y, true);
        } else if (place >= 4) {
            e.filter(r, place == 11 ? 0 : (place - 4) / 2, x, y);
        }
    }

    /** The first three are parts that are neither, of it; the others are not, or not of it. */
    private static void helpWith(RuleEngine e, int r, int help, int v) {
        int other = v == -6 ? -1 : v - 1;
        if (help == 0 || help == 1) {
            e.body(r, 2, help == 0 ? v : 5, help == 1 ? v : 5, false);
        } else if (help == 2) {
            e.body(r, 2, v, v, false);
        } else if (help == 3) {
            e.body(r, 2, v, v, true);
        } else if (help < 7) {
            e.filter(r, help - 4, v, v);
        } else {
            e.body(r, 2, other, other, false);
        }
    }

    private static void safeAggregates() {
        says("(with an aggregate: of its first item)");
        for (int kind = 0; kind < 4; kind++) {
            RuleEngine e = new RuleEngine();
            int r = ruleOf(e, 1, -1, -2, 0, -1, -3);
            due(e.safe(r), 0, kind);
            e.aggregate(r, kind, -3);
            due(e.safe(r), 1, kind);
            e.aggregate(r, kind, -2);
            due(e.safe(r), 0, kind);
            e.aggregate(r, kind, -1);
            due(e.safe(r), 1, kind);
            e.aggregate(r, -1, -1);
            due(e.safe(r), 0, kind);
            int first = ruleOf(e, 1, -2, 0, 0, -1, -3);
            e.aggregate(first, kind, -1);
            due(e.safe(first), 0, kind);
        }
        says("and the aggregate's stands in a part of it that is neither");
        for (int v = -6; v <= -1; v++) {
            for (int help = 0; help < 8; help++) {
                RuleEngine e = new RuleEngine();
                int r = e.rule(1, 0, 0);
                e.aggregate(r, 0, v);
                due(e.safe(r), 0, v);
                helpWith(e, r, help, v);
                due(e.safe(r), help < 3 ? 1 : 0, v, help);
            }
        }
    }

    private static void unsafeRules() {
        says("unsafe rules give nothing");
        RuleEngine e = new RuleEngine();
        e.fact(0, 4, 4);
        ruleOf(e, 1, -1, -2, 0, -1, -1);
        e.body(ruleOf(e, 2, 4, 4), 3, -1, 4, true);
        e.filter(ruleOf(e, 3, 4, 4), 1, -1, 5);
        e.aggregate(ruleOf(e, 4, -1, -1, 0, -1, -1), 0, -2);
        e.aggregate(ruleOf(e, 5, -2, -1, 0, -1, -1), 3, -1);
        due(e.run(), 0);
        due(e.size(), 1);
        due(e.row(0), 4 * 32 + 4);
        due(e.row(4 * 32 + 4), NO);
        for (int n = 1; n < 6; n++) {
            due(e.holds(n, 4, 4), 0, n);
            due(e.round(n, 4, 4), NO, n);
        }
        e.body(0, 0, 4, -2, false);
        due(e.holds(1, 4, 4), 2);
    }

    private static void unsafeRulesCountNowhere() {
        says("and count nowhere below");
        RuleEngine e = new RuleEngine();
        e.fact(0, 4, 4);
        e.rule(1, 4, 4);
        int r = ruleOf(e, 1, 4, 4, 0, -1, -1);
        e.body(r, 2, -2, 4, true);
        due(e.stratum(1), 0);
        due(e.counts(1, 4, 4), 1);
        int s = ruleOf(e, 3, -1, -3, 3, -1, -2);
        e.body(s, 3, -1, -1, true);
        e.aggregate(s, 0, -4);
        due(e.run(), 1);
        due(e.stratum(3), 0);
        due(e.stratum(0), 0);
        e.body(r, 0, -1, -2, false);
        due(e.stratum(1), 1);
        due(e.counts(1, 4, 4), 2);
        e.body(s, 3, -4, -4, false);
        due(e.run(), -13);
        due(e.counts(1, 4, 4), 0);
        e.aggregate(s, 0, -6);
        due(e.run(), 1);
    }

    private static void cases() {
        says("A CASE of a rule is a number for each of its variables");
        int[][] rules = {{}, {1, 2}, {2, 1}, {-1, -2}, {-1, -1}, {-1, -2, -1, -2}, {-1, -2, -3, -4},
            {-1, -2, -2, -3}, {-1, -2, -2, -1}, {1, -1, -2, 2}, {1, -1, -1, 2}, {-1, -2, -3, -4, -5, -6},
            {-1, -2, -1, -3, -1, -4}, {-1, -4, -2, -4, -3, -4}, {-1, -2, -2, -3, -3, -4, -4, -5, -5, -6},
            {-1, -2, -2, -3, -3, -1}, {-4, -5, -5, -6, -6, -1, -1, -4}, {-1, -2, -2, -3, -3, -4, -4, -5, -5, -1},
            {-1, -2, -2, -3, -1, -3, -2, -4, -1, -4}, {-1, -2, -2, -3, -3, -1, -4, -5, -5, -6},
            {-1, -2, -2, -3, -3, -1, -1, -4}, {-1, -2, -2, -3, -3, -1, -4, -2},
            {-1, -2, -2, -3, -3, -1, -3, -4, -4, -5}};
        int[] many = {1, 1, 0, 3, 2, 3, 9, 4, 2, 4, 2, 27, 9, 9, 7, 2, 2, 2, 6, 8, 3, 3, 4};
        for (int i = 0; i < rules.length; i++) {
            // the facts say that the first number is not greater than the second one
            RuleEngine e = new RuleEngine();
            e.fact(0, 1, 1);
            e.fact(0, 1, 2);
            e.fact(0, 2, 2);
            int r = e.rule(1, 0, 31);
            for (int at = 0; at < rules[i].length; at += 2) {
                e.body(r, 0, rules[i][at], rules[i][at + 1], false);
            }
            due(e.counts(1, 0, 31), many[i], i);
            due(e.holds(1, 0, 31), many[i] > 0 ? 2 : 0, i);
        }
    }

    private static void casesOfAllParts() {
        says("by which all parts without NOT are facts that hold, none with NOT is, and all filters are so");
        RuleEngine e = new RuleEngine();
        sayTwins(e, 0, 6);
        e.fact(2, 0, 1);
        e.fact(2, 4, 5);
        e.fact(3, 1, 2);
        int r = ruleOf(e, 1, 9, 9, 0, -1, -1, 0, -2, -2);
        due(e.counts(1, 9, 9), 36);
        e.filter(r, 2, -1, -2);
        due(e.counts(1, 9, 9), 5);
        e.body(r, 2, -1, -2, true);
        due(e.counts(1, 9, 9), 3);
        e.body(r, 3, -1, -2, true);
        due(e.counts(1, 9, 9), 2);
        due(e.fact(2, 2, 3), 1);
        due(e.counts(1, 9, 9), 1);
        due(e.fact(2, 3, 4), 1);
        due(e.counts(1, 9, 9), 0);
        due(e.holds(1, 9, 9), 0);
        due(e.remove(2, 0, 1), 1);
        due(e.counts(1, 9, 9), 1);
        due(e.remove(0, 1, 1), 1);
        due(e.counts(1, 9, 9), 0);
        e.rule(0, 1, 1);
        due(e.counts(1, 9, 9), 1);
    }

    private static void headsOfCases() {
        says("A rule without an aggregate gives for each case its head");
        RuleEngine e = new RuleEngine();
        e.fact(0, 0, 31);
        e.fact(0, 31, 0);
        e.fact(0, 5, 6);
        ruleOf(e, 1, -2, -1, 0, -1, -2);
        ruleOf(e, 2, -1, 31, 0, -1, -2);
        ruleOf(e, 3, 0, 0, 0, -1, -2);
        ruleOf(e, 4, 0, 0, 5, -1, -2);
        int[] codes = {31, 5 * 32 + 6, 31 * 32, 1024 + 31, 1024 + 6 * 32 + 5, 1024 + 31 * 32,
            2048 + 31, 2048 + 5 * 32 + 31, 2048 + 31 * 32 + 31, 3072, NO};
        int n = -1;
        for (int code : codes) {
            due(e.row(n), code, n);
            n = code;
        }
    }

    private static void aggregateOfEachNumber() {
        says("One with an aggregate gives, for each number x that its head's first item is in some case, "
                + "(name, x, v)");
        for (int kind = 0; kind < 4; kind++) {
            RuleEngine e = new RuleEngine();
            e.fact(0, 0, 9);
            e.fact(0, 31, 4);
            e.fact(0, 31, 5);
            e.aggregate(ruleOf(e, 1, -1, 0, 0, -1, -2), kind, -2);
            e.aggregate(ruleOf(e, 2, 17, 0, 0, -1, -2), kind, -2);
            e.aggregate(ruleOf(e, 3, 17, 0, 9, -1, -2), kind, -2);
            e.aggregate(ruleOf(e, 4, -1, 0, 0, -1, -2), kind, -1);
            int[][] want = {{1, 2, 3, 1, 2}, {9, 9, 18, 0, 62 % 32}, {9, 4, 4, 0, 31}, {9, 5, 9, 0, 31}};
            due(e.row(1023), 1024 + want[kind][0], kind);
            due(e.row(1024 + 31), 1024 + 31 * 32 + want[kind][1], kind);
            due(e.row(2047), 2048 + 17 * 32 + want[kind][2], kind);
            due(e.row(3071), 4096 + want[kind][3], kind);
            due(e.row(4096 + 31), 4096 + 31 * 32 + want[kind][4], kind);
            due(e.size(), 3 + 5, kind);
        }
    }

    /** The only number that a rule with an aggregate of -1 gives, when -1 and -2 take so many numbers. */
    private static int given(int kind, int ones, int twos) {
        RuleEngine e = new RuleEngine();
        sayTwins(e, 0, ones);
        sayTwins(e, 1, twos);
        e.aggregate(ruleOf(e, 2, 9, 0, 0, -1, -1, 1, -2, -2), kind, -1);
        int code = e.row(2047);
        due(e.size(), ones + twos + 1, kind, ones, twos);
        return code - 2048 - 9 * 32;
    }

    private static void countModulo() {
        says("how many modulo 32");
        due(given(COUNT, 1, 1), 1);
        due(given(COUNT, 2, 1), 2);
        due(given(COUNT, 30, 1), 30);
        due(given(COUNT, 31, 1), 31);
        due(given(COUNT, 32, 1), 0);
        due(given(COUNT, 3, 11), 1);
        due(given(COUNT, 9, 7), 31);
        due(given(COUNT, 8, 8), 0);
        due(given(COUNT, 5, 13), 1);
        due(given(COUNT, 31, 31), 1);
        due(given(COUNT, 32, 32), 0);
    }

    /** The only number that a rule gives whose aggregate's variable takes these numbers. */
    private static int givenOf(int kind, int... numbers) {
        RuleEngine e = new RuleEngine();
        for (int n : numbers) {
            e.fact(0, 3, n);
        }
        e.aggregate(ruleOf(e, 2, -2, 0, 0, -2, -1), kind, -1);
        due(e.size(), numbers.length + 1, kind);
        return e.row(2047) - 2048 - 3 * 32;
    }

    private static void sumModulo() {
        says("the sum of the variable's numbers modulo 32");
        due(givenOf(SUM, 0), 0);
        due(givenOf(SUM, 31), 31);
        due(givenOf(SUM, 0, 31), 31);
        due(givenOf(SUM, 31, 1), 0);
        due(givenOf(SUM, 31, 2), 1);
        due(givenOf(SUM, 16, 15), 31);
        due(givenOf(SUM, 16, 17), 1);
        due(givenOf(SUM, 31, 30, 3), 0);
        due(given(SUM, 32, 1), 496 % 32);
        due(given(SUM, 31, 1), 465 % 32);
        due(given(SUM, 32, 31), 496 * 31 % 32);
        due(given(SUM, 2, 31), 31);
        due(given(SUM, 2, 32), 0);
    }

    private static void leastAndGreatest() {
        says("the least, or the greatest of them");
        int[][] sets = {{0}, {31}, {0, 31}, {30, 31}, {0, 1}, {15, 16}, {16, 15, 17}, {9, 2, 5}, {1, 30}};
        for (int[] set : sets) {
            int least = 31;
            int greatest = 0;
            for (int n : set) {
                least = Math.min(least, n);
                greatest = Math.max(greatest, n);
            }
            due(givenOf(LEAST, set), least, set);
            due(givenOf(GREATEST, set), greatest, set);
        }
        due(given(LEAST, 32, 32), 0);
        due(given(GREATEST, 32, 32), 31);
    }

    private static void secondItem() {
        says("(its head's second item is not looked at)");
        for (int kind = 0; kind < 4; kind++) {
            int[] want = {3, 60 % 32, 11, 31};
            for (int item = -6; item <= 31; item++) {
                RuleEngine e = new RuleEngine();
                e.fact(0, 6, 11);
                e.fact(0, 6, 18);
                e.fact(0, 6, 31);
                int r = ruleOf(e, 1, -1, item, 0, -1, -2);
                e.aggregate(r, kind, -2);
                due(e.safe(r), 1, kind, item);
                due(e.row(1023), 1024 + 6 * 32 + want[kind], kind, item);
                due(e.counts(1, 6, want[kind]), 1, kind, item);
                due(e.size(), 4, kind, item);
            }
        }
    }

    private static void needs() {
        says("A name NEEDS another one when a rule of it has a part with that");
        for (int at = 0; at < 5; at++) {
            RuleEngine e = new RuleEngine();
            need(e, 1, 0, true);
            int r = e.rule(2, 0, 0);
            for (int i = 0; i < at; i++) {
                e.filter(r, i % 3, 0, 1);
            }
            due(e.stratum(2), 0, at);
            e.body(r, 1, 31, 31, false);
            due(e.stratum(2), 1, at);
            due(e.stratum(3), 0, at);
            need(e, 0, 3, false);
            due(e.stratum(0), 0, at);
            need(e, 3, 2, false);
            due(e.run(), -11, at);
        }
    }

    private static void strictNeeds() {
        says("it needs it STRICTLY when that has NOT, or the rule has an aggregate");
        for (int kind = -1; kind < 4; kind++) {
            RuleEngine e = new RuleEngine();
            int r = ruleOf(e, 1, 0, 0, 2, -1, -1, 3, -1, -1);
            e.body(r, 4, -1, -1, true);
            e.aggregate(r, kind, -1);
            due(e.stratum(1), 1, kind);
            int back = need(e, 2, 1, false);
            due(e.run(), kind < 0 ? 0 : -11, kind);
            e.drop(back);
            back = need(e, 3, 1, false);
            due(e.run(), kind < 0 ? 0 : -11, kind);
            e.drop(back);
            need(e, 4, 1, false);
            due(e.run(), -11, kind);
        }
        RuleEngine e = new RuleEngine();
        int plain = ruleOf(e, 1, 0, 0, 2, -1, -1);
        due(e.stratum(1), 0);
        e.aggregate(plain, 3, -1);
        due(e.stratum(1), 1);
        e.aggregate(plain, -1, 0);
        due(e.stratum(1), 0);
        e.body(plain, 2, -1, -1, true);
        due(e.stratum(1), 1);
    }

    private static void circles() {
        says("There is a CIRCLE at a name, when it needs some name strictly, which is it");
        for (int n = 0; n < 16; n++) {
            RuleEngine e = new RuleEngine();
            int plain = need(e, n, n, false);
            due(e.run(), 0, n);
            need(e, n, n, true);
            due(e.run(), -10 - n, n);
            e.drop(1);
            due(e.run(), 0, n);
            e.body(plain, n, -1, -1, false);
            e.aggregate(plain, 2, -1);
            due(e.run(), -10 - n, n);
            e.drop(plain);
            due(e.run(), 0, n);
        }
    }

    private static void circlesByWayOfOthers() {
        says("or needs it by way of any others");
        for (int strict = 0; strict < 16; strict++) {
            RuleEngine e = new RuleEngine();
            for (int n = 0; n < 15; n++) {
                need(e, n, n + 1, n == strict);
            }
            due(e.run(), strict < 15 ? strict + 1 : 0, strict);
            due(e.stratum(0), strict < 15 ? 1 : 0, strict);
            int last = need(e, 15, 0, strict == 15);
            due(e.run(), -10 - strict, strict);
            e.drop(last);
            need(e, 15, 1, strict == 15);
            due(e.run(), strict == 0 ? 1 : -10 - strict, strict);
        }
        RuleEngine e = new RuleEngine();
        need(e, 9, 4, true);
        need(e, 4, 9, false);
        due(e.run(), -19);
        need(e, 2, 9, true);
        due(e.run(), -19);
        need(e, 4, 9, true);
        due(e.run(), -14);
        need(e, 4, 2, false);
        due(e.run(), -12);
    }

    private static void strata() {
        says("STRATA: each name has the least number from 0 such that it is not less than those of names "
                + "that it needs, and greater than those that it needs strictly");
        RuleEngine up = new RuleEngine();
        RuleEngine down = new RuleEngine();
        RuleEngine flat = new RuleEngine();
        for (int n = 1; n < 16; n++) {
            need(up, n, n - 1, true);
            need(down, 15 - n, 16 - n, true);
            need(flat, 15 - n, 16 - n, false);
        }
        for (int n = 0; n < 16; n++) {
            due(new RuleEngine().stratum(n), 0, n);
            due(up.stratum(n), n, n);
            due(down.stratum(n), 15 - n, n);
            due(flat.stratum(n), 0, n);
        }
        due(up.drop(7), 14);
        for (int n = 0; n < 16; n++) {
            due(up.stratum(n), n < 8 ? n : n - 8, n);
        }
    }

    private static void strataOfManyWays() {
        says("not less than those of names that it needs, and greater than those that it needs strictly");
        RuleEngine e = new RuleEngine();
        need(e, 1, 0, true);
        need(e, 2, 1, true);
        need(e, 3, 2, false);
        need(e, 3, 0, true);
        due(e.stratum(3), 2);
        need(e, 4, 3, false);
        need(e, 4, 3, true);
        due(e.stratum(4), 3);
        need(e, 5, 6, false);
        need(e, 6, 5, false);
        due(e.stratum(5), 0);
        need(e, 6, 1, true);
        due(e.stratum(5), 2);
        due(e.stratum(6), 2);
        need(e, 5, 4, false);
        due(e.stratum(5), 3);
        due(e.stratum(6), 3);
        due(e.stratum(15), 0);
        int[] held = {0, 2, 0, 2, 2, 2, 2};
        for (int n = 0; n < held.length; n++) {
            due(e.holds(n, 0, 0), held[n], n);
        }
    }

    private static void whatHolds() {
        says("WHAT HOLDS: facts that were said, and, when there is no circle, "
                + "stratum by stratum what rules give");
        // the upper stratum's rules stand first, and are still given from all that the lower one gave
        RuleEngine e = new RuleEngine();
        e.body(ruleOf(e, 3, -1, -2, 4, -1, -1, 4, -2, -2), 2, -1, -2, true);
        e.aggregate(ruleOf(e, 1, -1, 0, 2, -1, -2), 0, -2);
        ruleOf(e, 2, -1, -3, 2, -1, -2, 2, -2, -3);
        sayTwins(e, 4, 5);
        for (int n = 0; n < 4; n++) {
            due(e.fact(2, n, n + 1), 1, n);
        }
        for (int a = 0; a < 5; a++) {
            for (int b = 0; b < 5; b++) {
                due(e.holds(2, a, b), b == a + 1 ? 1 : a < b ? 2 : 0, a, b);
                due(e.holds(3, a, b), a < b ? 0 : 2, a, b);
                due(e.holds(1, a, b), a < 4 && b == 4 - a ? 2 : 0, a, b);
            }
        }
        due(e.size(), 5 + 10 + 15 + 4);
        due(e.remove(2, 1, 2), 1);
        due(e.size(), 5 + 4 + 21 + 3);
        need(e, 5, 5, true);
        due(e.size(), 5 + 3);
    }

    private static void rounds() {
        says("a stratum's rules (those of its names) in ROUNDS, each from all that held before it");
        for (int order = 0; order < 2; order++) {
            RuleEngine e = new RuleEngine();
            e.fact(0, 8, 8);
            for (int i = 1; i < 16; i++) {
                int n = order == 0 ? i : 16 - i;
                ruleOf(e, n, -1, -1, n - 1, -1, -1);
            }
            due(e.run(), 15, order);
            for (int n = 1; n < 16; n++) {
                due(e.round(n, 8, 8), n, order, n);
            }
        }
        // three names of one stratum share its rounds, and names of other strata have their own
        RuleEngine e = new RuleEngine();
        e.rule(1, 0, 0);
        ruleOf(e, 2, 0, 0, 1, 0, 0);
        ruleOf(e, 3, 0, 0, 2, 0, 0);
        need(e, 5, 4, true);
        ruleOf(e, 6, 0, 0, 5, 0, 0, 3, 0, 0);
        due(e.run(), 3 + 2);
        due(e.round(3, 0, 0), 3);
        due(e.round(5, 0, 0), 1);
        due(e.round(6, 0, 0), 2);
    }

    private static void roundsEnd() {
        says("as long as a round gives what did not hold");
        RuleEngine e = new RuleEngine();
        ruleOf(e, 0, -2, -1, 0, -1, -2);
        due(e.run(), 0);
        e.fact(0, 3, 3);
        due(e.run(), 0);
        e.fact(0, 3, 4);
        due(e.run(), 1);
        due(e.size(), 3);
        e.fact(0, 4, 3);
        due(e.run(), 0);
        // one pair more a round, through all numbers, and no way on behind the last one
        RuleEngine far = new RuleEngine();
        sayTwins(far, 0, 32);
        far.fact(1, 0, 0);
        far.filter(ruleOf(far, 1, 0, -2, 1, 0, -1, 0, -2, -2), 2, -1, -2);
        due(far.run(), 31);
        due(far.round(1, 0, 1), 1);
        due(far.round(1, 0, 31), 31);
        due(far.size(), 32 + 32);
        due(far.remove(0, 20, 20), 1);
        due(far.run(), 19);
        due(far.round(1, 0, 20), NO);
    }

    private static void saidAlone() {
        says("With a circle those that were said alone");
        RuleEngine e = new RuleEngine();
        e.fact(0, 1, 1);
        ruleOf(e, 1, -1, -1, 0, -1, -1);
        e.rule(2, 5, 5);
        due(e.size(), 3);
        int r = need(e, 15, 15, true);
        due(e.size(), 1);
        due(e.row(-1), 33);
        due(e.row(33), NO);
        due(e.holds(0, 1, 1), 1);
        due(e.holds(1, 1, 1), 0);
        due(e.holds(2, 5, 5), 0);
        due(e.round(2, 5, 5), NO);
        due(e.fact(2, 5, 5), 1);
        due(e.holds(2, 5, 5), 1);
        due(e.size(), 2);
        due(e.drop(r), 2);
        due(e.size(), 3);
        due(e.holds(1, 1, 1), 2);
    }
}
