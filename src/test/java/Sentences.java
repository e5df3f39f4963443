/** What the tests that go through the document sentence by sentence share. */
class Sentences {
    static final int BAD = -1;
    static final int NO = -2;
    static final int FULL = -3;
    static final int LOW = Integer.MIN_VALUE;
    static final int HIGH = Integer.MAX_VALUE;

    /** Just inside and just outside of the bounds that the document names, and far outside. */
    static final int[] NAMES = {0, 15};
    static final int[] BAD_NAMES = {LOW, -2, -1, 16, 17, HIGH};
    static final int[] NUMBERS = {0, 31};
    static final int[] BAD_NUMBERS = {LOW, -6, -1, 32, 33, HIGH};
    static final int[] ITEMS = {-6, -1, 0, 31};
    static final int[] BAD_ITEMS = {LOW, -8, -7, 32, 33, HIGH};

    interface OfFact {
        int ask(RuleEngine e, int name, int a, int b);
    }

    interface OfItems {
        int ask(RuleEngine e, int x, int y);
    }

    interface OfRule {
        int ask(RuleEngine e, int rule);
    }

    /** The calls with a fact, and what they answer about any fact of a new object. */
    static final OfFact[] OF_FACT = {
        RuleEngine::fact, RuleEngine::remove, RuleEngine::holds, RuleEngine::round, RuleEngine::counts};
    static final int[] OF_NO_FACT = {1, 0, 0, NO, 0};

    /** The calls with two items; with one rule that has no parts yet, each of them answers 1. */
    static final OfItems[] OF_ITEMS = {
        (e, x, y) -> e.rule(0, x, y),
        (e, x, y) -> e.body(0, 0, x, y, false),
        (e, x, y) -> e.body(0, 0, x, y, true),
        (e, x, y) -> e.filter(0, 0, x, y),
        (e, x, y) -> e.filter(0, 1, x, y),
        (e, x, y) -> e.filter(0, 2, x, y)};

    /** The calls with a rule's number that leave the number of rules as it is. */
    static final OfRule[] OF_RULE = {
        (e, r) -> e.body(r, 0, 0, 0, false),
        (e, r) -> e.body(r, 0, 0, 0, true),
        (e, r) -> e.filter(r, 0, 0, 1),
        (e, r) -> e.aggregate(r, 0, -1),
        (e, r) -> e.aggregate(r, -1, -1),
        RuleEngine::safe};

    private static String sentence = "";
    private static int sentences = 0;
    private static int looked = 0;
    private static int wrong = 0;

    /** The words of the document that the answers from here on are about. */
    static void says(String words) {
        if (sentences > 0 && looked == 0) {
            tell("nothing was asked");
        }
        sentence = words;
        sentences++;
        looked = 0;
    }

    static void due(int got, int want, int... with) {
        looked++;
        if (got != want) {
            StackTraceElement at = new Throwable().getStackTrace()[1];
            tell(at + " " + java.util.Arrays.toString(with) + " answered " + got + ", due is " + want);
        }
    }

    private static void tell(String what) {
        wrong++;
        System.out.println("\"" + sentence + "\": " + what);
    }

    static void end() {
        says("");
        System.out.println((sentences - 1) + " sentences, " + wrong + " answers not as due");
        if (wrong != 0) {
            System.exit(1);
        }
    }

    /** A rule with plain parts, each a name and two items; answers its number. */
    static int ruleOf(RuleEngine e, int name, int x, int y, int... parts) {
        int r = e.rule(name, x, y);
        for (int i = 0; i + 2 < parts.length; i += 3) {
            e.body(r, parts[i], parts[i + 1], parts[i + 2], false);
        }
        return r;
    }

    /** A rule of n that needs m, with NOT or without; its items are numbers, so it is safe. */
    static int need(RuleEngine e, int n, int m, boolean strictly) {
        int r = e.rule(n, 0, 0);
        e.body(r, m, 0, 0, strictly);
        return r;
    }

    /** Says (name, n, n) for the numbers from 0 to below count. */
    static void sayTwins(RuleEngine e, int name, int count) {
        for (int n = 0; n < count; n++) {
            e.fact(name, n, n);
        }
    }

    /** Every answer by which two objects could differ, but for the parts of rules. */
    static void sameAnswers(RuleEngine one, RuleEngine two, int with) {
        due(one.run(), two.run(), with);
        due(one.size(), two.size(), with);
        int code = -1;
        for (int i = 0; i < 60 && code != NO; i++) {
            int next = two.row(code);
            due(one.row(code), next, with);
            code = next;
            if (code >= 0) {
                sameAbout(one, two, code, with);
            }
        }
        for (int r = 0; r <= 16; r++) {
            due(one.safe(r), two.safe(r), with);
        }
        for (int n = 0; n < 16; n++) {
            due(one.stratum(n), two.stratum(n), with);
        }
    }

    private static void sameAbout(RuleEngine one, RuleEngine two, int code, int with) {
        for (int i = 2; i < OF_FACT.length; i++) {
            int got = OF_FACT[i].ask(one, code / 1024, code / 32 % 32, code % 32);
            due(got, OF_FACT[i].ask(two, code / 1024, code / 32 % 32, code % 32), with, code);
        }
    }
}
