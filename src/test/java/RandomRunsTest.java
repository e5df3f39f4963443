import java.util.ArrayList;
import java.util.Arrays;
import java.util.Collections;
import java.util.List;
import java.util.Random;

/** Runs of calls drawn from fixed seeds, every answer compared with that of NaiveEngine. */
public final class RandomRunsTest {
    private static final int[] ODD =
            {-1, -2, -6, -7, 0, 3, 4, 15, 16, 31, 32, 33, Integer.MIN_VALUE, Integer.MAX_VALUE};

    private static int wrong = 0;
    private static long answers = 0;

    private final Random random;
    private final RuleEngine engine = new RuleEngine();
    private final NaiveEngine naive = new NaiveEngine();
    private final StringBuilder story = new StringBuilder();
    private final int names;
    private final int variables;
    private final int[] numbers;
    /** How many of 80 arguments are drawn from ODD; 0 in runs that are to give much. */
    private final int odds;

    private RandomRunsTest(long seed, boolean wild) {
        random = new Random(seed);
        names = wild ? 2 + random.nextInt(15) : 4 + random.nextInt(6);
        variables = 1 + random.nextInt(6);
        odds = wild ? 1 : 0;
        int[][] few = {{0, 1, 2}, {0, 1, 31}, {0, 30, 31}, {15, 16, 17}};
        int[][] more = {{0, 1, 2, 3, 4, 5}, {0, 1, 2, 29, 30, 31}, {7, 8, 9, 15, 16, 31}};
        numbers = variables > 4 ? few[random.nextInt(few.length)] : more[random.nextInt(more.length)];
    }

    public static void main(String[] args) {
        for (long seed = 0; seed < 1500 && wrong == 0; seed++) {
            RandomRunsTest wild = new RandomRunsTest(seed, true);
            wild.playWild();
            wild.tell(seed);
            RandomRunsTest grown = new RandomRunsTest(seed, false);
            grown.playGrown();
            grown.tell(seed);
        }
        System.out.println(answers + " answers, " + wrong + " not as due");
        if (wrong != 0) {
            System.exit(1);
        }
    }

    private void tell(long seed) {
        if (wrong != 0) {
            System.out.println("seed " + seed + ":" + story);
        }
    }

    /** Calls of all kinds with arguments of all kinds: most rules give nothing, many are refused. */
    private void playWild() {
        int calls = 40 + random.nextInt(140);
        for (int i = 0; i < calls && wrong == 0; i++) {
            int what = random.nextInt(100);
            if (what < 30) {
                sayOrRemove(what < 26, name(names));
            } else if (what < 40) {
                wildRule();
            } else if (what < 56) {
                part(random.nextInt(12) - 1, wildPart());
            } else if (what < 60) {
                setAggregate(random.nextInt(12) - 1, random.nextInt(5) - 1, -1 - random.nextInt(variables));
            } else if (what < 63) {
                drop(random.nextInt(12) - 1);
            } else {
                ask();
            }
        }
    }

    /** Safe rules over facts enough that they give some, asked for whole, changed, and asked again. */
    private void playGrown() {
        int facts = 10 + random.nextInt(20);
        for (int i = 0; i < facts; i++) {
            sayOrRemove(true, random.nextInt(3));
        }
        int rules = 2 + random.nextInt(8);
        for (int i = 0; i < rules && wrong == 0; i++) {
            safeRule(1 + random.nextInt(names - 1));
        }
        askAll();
        for (int i = 0; i < 3 && wrong == 0; i++) {
            change();
            askAll();
        }
    }

    private void change() {
        int what = random.nextInt(5);
        if (what < 2) {
            sayOrRemove(what == 0, random.nextInt(names));
        } else if (what == 2) {
            drop(random.nextInt(6));
        } else if (what == 3) {
            setAggregate(random.nextInt(6), random.nextInt(5) - 1, -1);
        } else {
            int code = naive.row(random.nextInt(3000));
            if (code >= 0) {
                due("remove", engine.remove(code / 1024, code / 32 % 32, code % 32),
                        naive.remove(code / 1024, code / 32 % 32, code % 32), code);
            }
        }
    }

    private void sayOrRemove(boolean say, int n) {
        int a = number();
        int b = number();
        if (say) {
            due("fact", engine.fact(n, a, b), naive.fact(n, a, b), n, a, b);
        } else {
            due("remove", engine.remove(n, a, b), naive.remove(n, a, b), n, a, b);
        }
    }

    private void wildRule() {
        int r = newRule(name(names), item(), item());
        int parts = random.nextInt(6);
        for (int i = 0; i < parts && r >= 0; i++) {
            part(r, wildPart());
        }
    }

    private int newRule(int n, int x, int y) {
        int r = naive.rule(n, x, y);
        due("rule", engine.rule(n, x, y), r, n, x, y);
        return r;
    }

    /** does (3 for a plain part, 4 with NOT), name, x, y. */
    private int[] wildPart() {
        int does = Math.min(4, random.nextInt(9));
        return new int[] {does > 3 ? 3 + random.nextInt(2) : odd(does), name(names), item(), item()};
    }

    private void part(int r, int[] p) {
        int[] given = {r, p[0], p[1], p[2], p[3]};
        if (p[0] == 3 || p[0] == 4) {
            boolean not = p[0] == 4;
            due("body", engine.body(r, p[1], p[2], p[3], not), naive.body(r, p[1], p[2], p[3], not), given);
        } else {
            due("filter", engine.filter(r, p[0], p[2], p[3]), naive.filter(r, p[0], p[2], p[3]), given);
        }
    }

    private void safeRule(int head) {
        boolean ring = random.nextInt(5) == 0;
        int plain = ring ? 3 + random.nextInt(3) : 1 + random.nextInt(5);
        int kind = random.nextInt(4) == 0 ? random.nextInt(4) : -1;
        List<int[]> parts = new ArrayList<>();
        List<Integer> items = new ArrayList<>(List.of(numbers[0]));
        for (int i = 0; i < plain; i++) {
            int n = random.nextInt(30) == 0 ? random.nextInt(names) : fullName(kind < 0 ? head + 1 : head);
            // five parts with variables in a row are often a ring, which the engine treats on its own
            int x = ring ? -1 - i % variables : item();
            int y = ring ? -1 - (i + 1) % variables : item();
            int[] p = {3, n, x, y};
            parts.add(p);
            items.add(p[2]);
            items.add(p[3]);
        }
        for (int i = random.nextInt(6 - plain); i > 0; i--) {
            int does = random.nextInt(5);
            int n = random.nextInt(40) == 0 ? random.nextInt(names) : random.nextInt(head);
            parts.add(new int[] {does >= 3 ? 4 : does, n, one(items), one(items)});
        }
        Collections.shuffle(parts, random);
        int r = newRule(head, one(items), kind < 0 ? one(items) : item());
        for (int[] p : parts) {
            part(r, p);
        }
        if (kind >= 0) {
            setAggregate(r, kind, Collections.min(items.subList(random.nextInt(items.size()), items.size())));
        }
    }

    /** A name below this one, as a rule one of which something holds. */
    private int fullName(int below) {
        int code = naive.row(1024 * random.nextInt(below) - 1);
        return code >= 0 && code / 1024 < below ? code / 1024 : random.nextInt(below);
    }

    private void setAggregate(int r, int kind, int v) {
        int k = odd(kind);
        due("aggregate", engine.aggregate(r, k, v), naive.aggregate(r, k, v), r, k, v);
    }

    private void drop(int r) {
        due("drop", engine.drop(r), naive.drop(r), r);
    }

    private void ask() {
        int n = name(names);
        int a = number();
        int b = number();
        switch (random.nextInt(9)) {
            case 0 -> due("run", engine.run(), naive.run());
            case 1 -> due("stratum", engine.stratum(n), naive.stratum(n), n);
            case 2 -> due("size", engine.size(), naive.size());
            case 3 -> {
                int r = random.nextInt(12) - 1;
                due("safe", engine.safe(r), naive.safe(r), r);
            }
            case 4 -> {
                int from = odd(random.nextInt(20000) - 2000);
                due("row", engine.row(from), naive.row(from), from);
            }
            default -> askOf(n, a, b);
        }
    }

    private void askOf(int n, int a, int b) {
        due("holds", engine.holds(n, a, b), naive.holds(n, a, b), n, a, b);
        due("round", engine.round(n, a, b), naive.round(n, a, b), n, a, b);
        due("counts", engine.counts(n, a, b), naive.counts(n, a, b), n, a, b);
    }

    private void askAll() {
        due("run", engine.run(), naive.run());
        due("size", engine.size(), naive.size());
        for (int n = 0; n < names; n++) {
            due("stratum", engine.stratum(n), naive.stratum(n), n);
        }
        int code = -1;
        for (int i = 0; i < 400 && code != RuleEngine.NO && wrong == 0; i++) {
            int next = naive.row(code);
            due("row", engine.row(code), next, code);
            code = next;
            if (code >= 0 && random.nextInt(8) < rulesFrom(code)) {
                askOf(code / 1024, code / 32 % 32, code % 32);
            }
        }
        for (int i = 0; i < 6; i++) {
            askOf(random.nextInt(names), number(), number());
        }
    }

    /** Facts that only rules give are worth most questions. */
    private int rulesFrom(int code) {
        return naive.holds(code / 1024, code / 32 % 32, code % 32) == 2 ? 7 : 1;
    }

    private int name(int below) {
        return odd(random.nextInt(below));
    }

    private int number() {
        return odd(numbers[random.nextInt(numbers.length)]);
    }

    private int item() {
        boolean number = random.nextInt(10) == 0;
        return odd(number ? numbers[random.nextInt(numbers.length)] : -1 - random.nextInt(variables));
    }

    private int one(List<Integer> items) {
        return items.get(random.nextInt(items.size()));
    }

    private int odd(int usual) {
        return random.nextInt(80) < odds ? ODD[random.nextInt(ODD.length)] : usual;
    }

    private void due(String call, int got, int want, int... given) {
        answers++;
        story.append(' ').append(call).append(Arrays.toString(given)).append('=').append(want);
        if (got != want) {
            wrong++;
            System.out.println(call + Arrays.toString(given) + " answered " + got + ", due is " + want);
        }
    }
}
