import java.util.ArrayList;
import java.util.Arrays;
import java.util.List;
import java.util.NavigableSet;
import java.util.Set;
import java.util.TreeMap;
import java.util.TreeSet;

/** The document's terms word by word, with no thought of speed: what RuleEngine is compared with. */
final class NaiveEngine {
    private record Part(int does, int name, int x, int y, boolean not) {
        boolean isFilter() {
            return does >= 0;
        }
    }

    private static final class Rule {
        int name;
        int x;
        int y;
        int kind = -1;
        int variable;
        final List<Part> parts = new ArrayList<>();
    }

    private final TreeSet<Integer> said = new TreeSet<>();
    private final List<Rule> rules = new ArrayList<>();
    private TreeMap<Integer, Integer> held;
    private int rounds;
    private int circle;
    private int[] levels;

    int fact(int name, int a, int b) {
        return badFact(name, a, b) ? -1 : changed(said.add(code(name, a, b)));
    }

    int remove(int name, int a, int b) {
        return badFact(name, a, b) ? -1 : changed(said.remove(code(name, a, b)));
    }

    int rule(int name, int x, int y) {
        if (badName(name) || badItem(x) || badItem(y)) {
            return -1;
        }
        if (rules.size() == 16) {
            return -3;
        }
        Rule r = new Rule();
        r.name = name;
        r.x = x;
        r.y = y;
        rules.add(r);
        held = null;
        return rules.size() - 1;
    }

    int body(int rule, int name, int x, int y, boolean not) {
        return badName(name) ? -1 : part(rule, new Part(-1, name, x, y, not));
    }

    int filter(int rule, int does, int x, int y) {
        return does < 0 || does > 2 ? -1 : part(rule, new Part(does, -1, x, y, false));
    }

    int aggregate(int rule, int kind, int variable) {
        if (badRule(rule) || kind < -1 || kind > 3 || kind >= 0 && (variable > -1 || variable < -6)) {
            return -1;
        }
        rules.get(rule).kind = kind;
        rules.get(rule).variable = variable;
        held = null;
        return 1;
    }

    int drop(int rule) {
        if (badRule(rule)) {
            return -1;
        }
        rules.remove(rule);
        held = null;
        return rules.size();
    }

    int safe(int rule) {
        return badRule(rule) ? -1 : isSafe(rules.get(rule)) ? 1 : 0;
    }

    int run() {
        settle();
        return circle >= 0 ? -10 - circle : rounds;
    }

    int stratum(int name) {
        if (badName(name)) {
            return -1;
        }
        settle();
        return circle >= 0 ? -2 : levels[name];
    }

    int holds(int name, int a, int b) {
        if (badFact(name, a, b)) {
            return -1;
        }
        settle();
        int code = code(name, a, b);
        return said.contains(code) ? 1 : held.containsKey(code) ? 2 : 0;
    }

    int round(int name, int a, int b) {
        if (badFact(name, a, b)) {
            return -1;
        }
        settle();
        return held.getOrDefault(code(name, a, b), -2);
    }

    int counts(int name, int a, int b) {
        if (badFact(name, a, b)) {
            return -1;
        }
        settle();
        int n = 0;
        for (Rule r : rules) {
            if (circle < 0 && isSafe(r) && r.name == name) {
                for (int given : gives(r, held.navigableKeySet())) {
                    n += given == code(name, a, b) ? 1 : 0;
                }
            }
        }
        return n;
    }

    int row(int n) {
        settle();
        Integer next = held.higherKey(n);
        return next == null ? -2 : next;
    }

    int size() {
        settle();
        return held.size();
    }

    private int part(int rule, Part p) {
        if (badRule(rule) || badItem(p.x) || badItem(p.y)) {
            return -1;
        }
        List<Part> parts = rules.get(rule).parts;
        if (parts.size() == 5) {
            return -3;
        }
        parts.add(p);
        held = null;
        return parts.size();
    }

    private int changed(boolean change) {
        held = null;
        return change ? 1 : 0;
    }

    private boolean badRule(int rule) {
        return rule < 0 || rule >= rules.size();
    }

    private static boolean badName(int name) {
        return name < 0 || name > 15;
    }

    private static boolean badItem(int item) {
        return item < -6 || item > 31;
    }

    private static boolean badFact(int name, int a, int b) {
        return badName(name) || a < 0 || a > 31 || b < 0 || b > 31;
    }

    private static int code(int name, int a, int b) {
        return 1024 * name + 32 * a + b;
    }

    private static boolean isSafe(Rule r) {
        Set<Integer> plain = new TreeSet<>();
        Set<Integer> asked = new TreeSet<>();
        asked.add(r.x);
        asked.add(r.kind < 0 ? r.y : r.variable);
        for (Part p : r.parts) {
            (p.isFilter() || p.not ? asked : plain).addAll(Arrays.asList(p.x, p.y));
        }
        for (int item : asked) {
            if (item < 0 && !plain.contains(item)) {
                return false;
            }
        }
        return true;
    }

    private boolean needs(int n, int m, boolean strictly) {
        for (Rule r : rules) {
            for (Part p : r.parts) {
                boolean strict = p.not || r.kind >= 0;
                if (r.name == n && isSafe(r) && !p.isFilter() && p.name == m && (strict || !strictly)) {
                    return true;
                }
            }
        }
        return false;
    }

    private boolean reaches(int from, int to, Set<Integer> seen) {
        for (int m = 0; m < 16; m++) {
            if (needs(from, m, false) && (m == to || seen.add(m) && reaches(m, to, seen))) {
                return true;
            }
        }
        return false;
    }

    private int leastCircle() {
        for (int n = 0; n < 16; n++) {
            for (int m = 0; m < 16; m++) {
                if (needs(n, m, true) && (m == n || reaches(m, n, new TreeSet<>()))) {
                    return n;
                }
            }
        }
        return -1;
    }

    private int[] strata() {
        int[] level = new int[16];
        boolean moved = true;
        while (moved) {
            moved = false;
            for (int n = 0; n < 16; n++) {
                for (int m = 0; m < 16; m++) {
                    int least = needs(n, m, true) ? level[m] + 1 : needs(n, m, false) ? level[m] : 0;
                    moved |= least > level[n];
                    level[n] = Math.max(level[n], least);
                }
            }
        }
        return level;
    }

    private void settle() {
        if (held != null) {
            return;
        }
        held = new TreeMap<>();
        rounds = 0;
        for (int code : said) {
            held.put(code, 0);
        }
        circle = leastCircle();
        if (circle >= 0) {
            return;
        }
        levels = strata();
        for (int s = 0; s < 16; s++) {
            settleStratum(s);
        }
    }

    private void settleStratum(int s) {
        for (int round = 1; ; round++) {
            Set<Integer> given = new TreeSet<>();
            for (Rule r : rules) {
                if (isSafe(r) && levels[r.name] == s) {
                    given.addAll(gives(r, held.navigableKeySet()));
                }
            }
            given.removeAll(held.keySet());
            if (given.isEmpty()) {
                return;
            }
            rounds++;
            for (int code : given) {
                held.put(code, round);
            }
        }
    }

    /** One code for each case without an aggregate, one for each number x with it. */
    private List<Integer> gives(Rule r, NavigableSet<Integer> facts) {
        List<int[]> cases = new ArrayList<>();
        int[] numbers = new int[6];
        Arrays.fill(numbers, -1);
        collect(r, 0, numbers, facts, cases);
        List<Integer> codes = new ArrayList<>();
        if (r.kind < 0) {
            for (int[] c : cases) {
                codes.add(code(r.name, value(r.x, c), value(r.y, c)));
            }
            return codes;
        }
        for (int x = 0; x < 32; x++) {
            List<Integer> seen = new ArrayList<>();
            for (int[] c : cases) {
                if (value(r.x, c) == x) {
                    seen.add(value(r.variable, c));
                }
            }
            if (!seen.isEmpty()) {
                codes.add(code(r.name, x, total(r.kind, seen)));
            }
        }
        return codes;
    }

    private static int total(int kind, List<Integer> seen) {
        int sum = 0;
        int least = 31;
        int greatest = 0;
        for (int n : seen) {
            sum += n;
            least = Math.min(least, n);
            greatest = Math.max(greatest, n);
        }
        return kind == 0 ? seen.size() % 32 : kind == 1 ? sum % 32 : kind == 2 ? least : greatest;
    }

    /** Plain parts in a row give the variables their numbers; the other parts are looked at at the end. */
    private static void collect(
            Rule r, int at, int[] numbers, NavigableSet<Integer> facts, List<int[]> cases) {
        if (at == r.parts.size()) {
            if (othersAreSo(r, numbers, facts)) {
                cases.add(numbers.clone());
            }
            return;
        }
        Part p = r.parts.get(at);
        if (p.isFilter() || p.not) {
            collect(r, at + 1, numbers, facts, cases);
            return;
        }
        for (int code : facts.subSet(code(p.name, 0, 0), code(p.name + 1, 0, 0))) {
            int[] next = numbers.clone();
            if (match(p.x, code / 32 % 32, next) && match(p.y, code % 32, next)) {
                collect(r, at + 1, next, facts, cases);
            }
        }
    }

    private static boolean match(int item, int number, int[] numbers) {
        if (item >= 0) {
            return item == number;
        }
        int old = numbers[-1 - item];
        numbers[-1 - item] = number;
        return old < 0 || old == number;
    }

    private static boolean othersAreSo(Rule r, int[] c, Set<Integer> facts) {
        for (Part p : r.parts) {
            int x = value(p.x, c);
            int y = value(p.y, c);
            if (p.isFilter() && !(p.does == 0 ? x < y : p.does == 1 ? x != y : y == x + 1)) {
                return false;
            }
            if (!p.isFilter() && p.not && facts.contains(code(p.name, x, y))) {
                return false;
            }
        }
        return true;
    }

    private static int value(int item, int[] numbers) {
        return item >= 0 ? item : numbers[-1 - item];
    }
}
