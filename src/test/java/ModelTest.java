import java.util.Random;

/** Promises 1 to 19: runs of calls, made by a random source with a fixed seed, held against the model. */
final class ModelTest {
    private static final int RUNS = 400;
    /** An object may be used for 512 calls; some are left for the last step, which is not broken off. */
    private static final int CALLS = 480;
    private static final Checks checks = new Checks();
    /** How many runs ended as SILENT, BLOCKED, BAD, without results and with some: each must come often enough. */
    private static final int[] ends = new int[5];
    private static int manyDisjuncts;
    private static int longDisjuncts;

    private final Random random;
    private final ViewMediator m = new ViewMediator();
    private final Model model = new Model();
    private final int relations;
    private final int values;
    private final int variables;
    private int calls;

    private ModelTest(int seed) {
        random = new Random(seed);
        relations = 1 + random.nextInt(4);
        values = 1 + random.nextInt(random.nextBoolean() ? 4 : 16);
        variables = 2 + random.nextInt(5);
    }

    public static void main(String[] args) {
        for (int seed = 0; seed < RUNS && checks.allRight(); seed++) {
            new ModelTest(seed).go(seed);
        }
        for (int i = 0; i < ends.length; i++) {
            checks.due("often enough: end " + (i - 3), ends[i] >= 50, true);
        }
        checks.due("often enough: five disjuncts or more", manyDisjuncts >= 100, true);
        checks.due("often enough: five atoms or more", longDisjuncts >= 100, true);
        checks.end();
    }

    private void go(int seed) {
        prepare();
        while (calls < CALLS && checks.allRight()) {
            change();
            if (random.nextInt(4) == 0) {
                runBoth();
            }
        }
        if (!checks.allRight()) {
            System.out.println("seed " + seed + ", after " + calls + " calls");
        }
    }

    private void prepare() {
        for (int r = 0; r < relations; r++) {
            allow(r, 1 | random.nextInt(16));
            for (int i = random.nextInt(9); i > 0; i--) {
                fact(r, value(), value());
            }
        }
        for (int v = 0; v < 3; v++) {
            for (int i = 1 + random.nextInt(2); i > 0; i--) {
                safeRule(v);
            }
        }
        safeQuery();
        runBoth();
    }

    private void change() {
        switch (random.nextInt(12)) {
            case 0, 1 -> fact(relation(), value(), value());
            case 2 -> retract(relation(), value(), value());
            case 3 -> allow(relation(), random.nextInt(3) == 0 ? random.nextInt(16) : 1 | random.nextInt(16));
            case 4 -> fail(relation(), random.nextInt(5));
            case 5 -> failures(relation());
            case 6, 7 -> {
                int view = random.nextInt(3);
                forget(view);
                safeRule(view);
                safeRule(view);
            }
            case 8, 9, 10 -> safeQuery();
            default -> stray();
        }
    }

    /** A call with numbers that may lie outside, or that makes a rule or the query unsafe. */
    private void stray() {
        switch (random.nextInt(9)) {
            case 0 -> fact(near(4), near(16), near(16));
            case 1 -> retract(near(4), near(16), near(16));
            case 2 -> allow(near(4), near(16));
            case 3 -> fail(near(4), near(10));
            case 4 -> failures(near(4));
            case 5 -> rule(near(3));
            case 6 -> atom(near(3), near(4), near(22), near(22));
            case 7 -> forget(near(3));
            default -> ask(near(3), near(22), near(22));
        }
    }

    private void safeRule(int view) {
        rule(view);
        if (random.nextInt(4) == 0) {
            boolean turned = random.nextBoolean();
            atom(view, relation(), turned ? 17 : 16, turned ? 16 : 17);
            return;
        }
        boolean turned = random.nextBoolean();
        halfAtom(view, turned ? 17 : 16);
        halfAtom(view, turned ? 16 : 17);
    }

    private void halfAtom(int view, int half) {
        boolean turned = random.nextBoolean();
        int other = term();
        atom(view, relation(), turned ? other : half, turned ? half : other);
    }

    private void safeQuery() {
        m.clear();
        model.clear();
        calls++;
        int size = 1 + random.nextInt(3);
        if (size == 1) {
            ask(random.nextInt(3), 16, 17);
            return;
        }
        ask(random.nextInt(3), 16, term());
        if (size == 3) {
            ask(random.nextInt(3), term(), term());
        }
        ask(random.nextInt(3), term(), 17);
    }

    private int relation() {
        return random.nextInt(relations);
    }

    private int value() {
        return random.nextInt(values);
    }

    private int term() {
        return random.nextInt(6) == 0 ? value() : 16 + random.nextInt(variables);
    }

    private int near(int bound) {
        return random.nextInt(bound + 3) - 1;
    }

    private void retract(int relation, int x, int y) {
        calls++;
        checks.due("retract", m.retract(relation, x, y), model.retract(relation, x, y));
    }

    private void fail(int relation, int n) {
        calls++;
        checks.due("fail", m.fail(relation, n), model.fail(relation, n));
    }

    private void failures(int relation) {
        calls++;
        checks.due("failures", m.failures(relation), model.failures(relation));
    }

    private void fact(int relation, int x, int y) {
        calls++;
        checks.due("fact", m.fact(relation, x, y), model.fact(relation, x, y));
    }

    private void allow(int relation, int patterns) {
        calls++;
        checks.due("allow", m.allow(relation, patterns), model.allow(relation, patterns));
    }

    private void rule(int view) {
        calls++;
        checks.due("rule", m.rule(view), model.rule(view));
    }

    private void atom(int view, int relation, int a, int b) {
        calls++;
        checks.due("atom", m.atom(view, relation, a, b), model.atom(view, relation, a, b));
    }

    private void forget(int view) {
        calls++;
        checks.due("forget", m.forget(view), model.forget(view));
    }

    private void ask(int view, int a, int b) {
        calls++;
        checks.due("ask", m.ask(view, a, b), model.ask(view, a, b));
    }

    private void runBoth() {
        int end = m.run();
        calls++;
        checks.due("run", end, model.run());
        ends[Math.min(end, 1) + 3]++;
        manyDisjuncts += model.left.size() >= 5 ? 1 : 0;
        for (Model.Ordered disjunct : model.left) {
            longDisjuncts += disjunct.atoms().size() >= 5 ? 1 : 0;
        }
        compareCounts();
        compareDisjuncts();
        compareResults();
    }

    private void compareCounts() {
        calls += 3;
        checks.due("disjuncts", m.disjuncts(), model.left.size());
        checks.due("requests", m.requests(), model.requests);
        checks.due("tries", m.tries(), model.tries);
        for (int r = 0; r < relations; r++) {
            failures(r);
        }
    }

    private void compareDisjuncts() {
        for (int d = 0; d <= model.left.size() && calls < CALLS; d++) {
            calls++;
            checks.due("size " + d, m.size(d), model.size(d));
            for (int i = 0; i <= model.size(d); i++) {
                calls += 2;
                checks.due("atomAt " + d + " " + i, m.atomAt(d, i), model.atomAt(d, i));
                checks.due("patternAt " + d + " " + i, m.patternAt(d, i), model.patternAt(d, i));
            }
        }
    }

    private void compareResults() {
        for (int i = 0; i <= model.results.size() && calls < CALLS; i++) {
            calls++;
            checks.due("result " + i, m.result(i), model.result(i));
        }
    }
}
