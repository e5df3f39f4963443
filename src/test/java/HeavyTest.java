import java.lang.management.ManagementFactory;

/** The dearest rules, the longest rounds, and how much the calls of one object make. */
public final class HeavyTest {
    private static int wrong = 0;

    private static void due(String call, int got, int want) {
        if (got != want) {
            wrong++;
            System.out.println(call + " answered " + got + ", due is " + want);
        }
    }

    public static void main(String[] args) {
        fullFacts(32);
        fullFacts(31);
        rings();
        ringAndLoop();
        longRounds();
        changeAndAsk();
        manyObjects();
        System.out.println(wrong == 0 ? "all answers are as due" : wrong + " answers are not as due");
        if (wrong != 0) {
            System.exit(1);
        }
    }

    private static int ruleOf(RuleEngine e, int name, int x, int y, int partName, int... items) {
        int r = e.rule(name, x, y);
        for (int i = 0; i + 1 < items.length; i += 2) {
            e.body(r, partName, items[i], items[i + 1], false);
        }
        return r;
    }

    /** All pairs of n numbers hold, so that every number for every variable is a case. */
    private static void fullFacts(int n) {
        RuleEngine e = new RuleEngine();
        for (int i = 0; i < n; i++) {
            e.fact(0, i, i);
        }
        ruleOf(e, 1, -1, -2, 0, -1, -1, -2, -2);
        ruleOf(e, 2, 9, 9, 1, -1, -2, -3, -4, -5, -6);
        ruleOf(e, 3, -1, -6, 1, -1, -2, -2, -3, -3, -4, -4, -5, -5, -6);
        ruleOf(e, 4, 9, 9, 1, -1, -2, -2, -3, -3, -4, -4, -5, -5, -1);
        ruleOf(e, 5, -1, -2, 1, -1, -3, -1, -4, -2, -3, -2, -4, -3, -4);
        ruleOf(e, 6, 9, 9, 1, -1, -2, -2, -3, -3, -1, -1, -4, -4, -3);
        ruleOf(e, 7, -3, -3, 1, -1, -2, -2, -3, -3, -4, -4, -5, -5, -6);
        ruleOf(e, 12, 9, -2, 1, -1, -2, -1, -3, -2, -3, -1, -4, -2, -4);
        for (int kind = 0; kind < 4; kind++) {
            int r = ruleOf(e, 8 + kind, -4, 0, 1, -1, -2, -2, -3, -3, -4, -4, -5, -5, -6);
            e.aggregate(r, kind, -1);
        }
        due("run", e.run(), 3);
        due("three pairs", e.counts(2, 9, 9), n * n * n * n * n * n);
        due("a row of six", e.counts(3, 0, n - 1), n * n * n * n);
        due("a ring of five", e.counts(4, 9, 9), n * n * n * n * n);
        due("all but the head's link", e.counts(5, n - 1, 0), n * n);
        due("two rings", e.counts(6, 9, 9), n * n * n * n);
        due("one number twice", e.counts(7, 5, 5), n * n * n * n * n);
        due("two rings, asked for where they meet", e.counts(12, 9, 3), n * n * n);
        int fifth = Math.floorMod(n * n * n * n * n, 32);
        int sum = Math.floorMod(n * n * n * n * (n * (n - 1) / 2 % 32), 32);
        due("COUNT", e.counts(8, n - 1, fifth), 1);
        due("SUM", e.counts(9, n - 1, sum), 1);
        due("LEAST", e.counts(10, n - 1, 0), 1);
        due("GREATEST", e.counts(11, n - 1, n - 1), 1);
        due("size", e.size(), n + n * n + 1 + n * n + 1 + n * n + 1 + n + n + 4 * n);
    }

    /** Facts (i, i + 1) around n numbers: a ring of n parts has n cases, one of another length none. */
    private static void rings() {
        for (int n = 3; n <= 5; n++) {
            RuleEngine e = new RuleEngine();
            for (int i = 0; i < n; i++) {
                e.fact(0, i, (i + 1) % n);
            }
            ruleOf(e, 1, 1, 1, 0, -1, -2, -2, -3, -3, -1);
            ruleOf(e, 2, 2, 2, 0, -1, -2, -2, -3, -3, -4, -4, -1);
            ruleOf(e, 3, 3, 3, 0, -1, -2, -2, -3, -3, -4, -4, -5, -5, -1);
            ruleOf(e, 4, -6, -6, 0, -6, -2, -2, -3, -3, -6);
            for (int length = 3; length <= 5; length++) {
                due("ring of " + length, e.counts(length - 2, length - 2, length - 2), length == n ? n : 0);
            }
            due("ring through the head", e.counts(4, 1, 1), n == 3 ? 1 : 0);
        }
    }

    /** The first ring found is not the last one. */
    private static void ringAndLoop() {
        RuleEngine e = new RuleEngine();
        e.fact(0, 0, 0);
        e.fact(0, 1, 2);
        e.fact(0, 2, 3);
        e.fact(0, 3, 1);
        ruleOf(e, 1, 9, -1, 0, -1, -3, -3, -4, -4, -1);
        for (int n = 0; n < 4; n++) {
            due("ring at " + n, e.holds(1, 9, n), 2);
            due("ring at " + n, e.counts(1, 9, n), 1);
        }
        due("run", e.run(), 1);
    }

    /** Pairs counted up one by one, name after name: 1024 rounds for each of five names. */
    private static void longRounds() {
        RuleEngine e = new RuleEngine();
        for (int n = 0; n < 32; n++) {
            e.fact(0, n, n);
        }
        e.fact(1, 0, 0);
        for (int name = 1; name <= 5; name++) {
            int step = ruleOf(e, name, -1, -3, name, -1, -2);
            e.body(step, 0, -3, -3, false);
            e.filter(step, 2, -2, -3);
            int carry = ruleOf(e, name, -2, 0, name, -1, 31);
            e.body(carry, 0, -2, -2, false);
            e.filter(carry, 2, -1, -2);
            ruleOf(e, name + 1, 0, 0, name, 31, 31);
        }
        for (int turn = 0; turn < 20; turn++) {
            e.remove(1, 0, 0);
            due("nothing to start from", e.run(), 0);
            e.fact(1, 0, 0);
            due("run", e.run(), 5 * 1024);
            due("round", e.round(1, 1, 1), 33);
            due("round", e.round(5, 31, 31), 5 * 1024 - 1);
            due("round", e.round(6, 0, 0), 5 * 1024);
        }
    }

    /** 512 calls on one object, every second one after a change: nothing is made anew each time. */
    private static void changeAndAsk() {
        long before = allocated();
        RuleEngine e = new RuleEngine();
        ruleOf(e, 1, -1, -2, 0, -1, -2);
        ruleOf(e, 1, -1, -3, 1, -1, -2, -2, -3);
        int r = ruleOf(e, 2, -1, 0, 1, -1, -2);
        e.aggregate(r, 0, -2);
        for (int i = 0; i < 240; i++) {
            int n = i * 7 % 32;
            e.fact(0, n, (n + 1 + i / 32) % 32);
            due("changed", e.run() >= 1 ? 1 : 0, 1);
        }
        long made = allocated() - before;
        due("all numbers are joined", e.holds(2, 5, 0), 2);
        // well under a tenth of the room that one run has, at four bytes an element
        due("bytes " + made, made < 1_000_000 ? 1 : 0, 1);
    }

    private static void manyObjects() {
        long before = allocated();
        for (int i = 0; i < 170; i++) {
            RuleEngine e = new RuleEngine();
            e.rule(9, 3, 4);
            due("run", e.run(), 1);
        }
        long made = allocated() - before;
        due("bytes " + made, made < 10_000_000 ? 1 : 0, 1);
    }

    private static long allocated() {
        com.sun.management.ThreadMXBean threads =
                (com.sun.management.ThreadMXBean) ManagementFactory.getThreadMXBean();
        return threads.getThreadAllocatedBytes(Thread.currentThread().getId());
    }
}
