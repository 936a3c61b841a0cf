import java.util.List;

/** Promises 1 to 6 on ordinary inputs: a new object, fact, retract, allow, fail, failures. */
final class RelationsTest {
    private static final Checks checks = new Checks();

    public static void main(String[] args) {
        objectsAreApart();
        factPutsRows();
        retractTakesRows();
        allowSetsPatterns();
        failSetsFailures();
        checks.end();
    }

    private static void objectsAreApart() {
        ViewMediator one = new ViewMediator();
        ViewMediator other = new ViewMediator();
        one.fact(0, 1, 2);
        one.fail(0, 5);
        one.rule(0);
        checks.due("other object: fact", other.fact(0, 1, 2), true);
        checks.due("other object: failures", other.failures(0), 0);
        checks.due("other object: rule", other.rule(0), 0);
    }

    private static void factPutsRows() {
        ViewMediator m = new ViewMediator();
        checks.due("fact", m.fact(0, 3, 1), true);
        checks.due("fact, turned", m.fact(0, 1, 3), true);
        checks.due("fact again", m.fact(0, 3, 1), false);
        checks.due("fact, other relation", m.fact(1, 3, 1), true);
        checks.due("fact, last of all", m.fact(3, 15, 15), true);
        checks.due("fact, first of all", m.fact(2, 0, 0), true);
        checks.due("rows 0", Setups.rows(m, 0), List.of(19, 49));
        checks.due("rows 1", Setups.rows(m, 1), List.of(49));
        checks.due("rows 2", Setups.rows(m, 2), List.of(0));
        checks.due("rows 3", Setups.rows(m, 3), List.of(255));
    }

    private static void retractTakesRows() {
        ViewMediator m = new ViewMediator();
        Setups.facts(m, 0, 1, 1, 2, 2, 3, 3, 4, 4);
        m.fact(1, 2, 2);
        checks.due("retract in the middle", m.retract(0, 2, 2), true);
        checks.due("retract again", m.retract(0, 2, 2), false);
        checks.due("rows left", Setups.rows(m, 0), List.of(17, 51, 68));
        checks.due("retract the last", m.retract(0, 4, 4), true);
        checks.due("retract the first", m.retract(0, 1, 1), true);
        checks.due("rows left", Setups.rows(m, 0), List.of(51));
        checks.due("retract the only", m.retract(0, 3, 3), true);
        checks.due("rows left", Setups.rows(m, 0), List.of());
        checks.due("other relation", Setups.rows(m, 1), List.of(34));
        checks.due("fact after retract", m.fact(0, 3, 3), true);
        checks.due("rows anew", Setups.rows(m, 0), List.of(51));
    }

    /** The pattern of relation 0, asked behind relation 1, which makes 16 and 17 known; -1 if it is blocked. */
    private static int patternOf(ViewMediator m, int a, int b) {
        m.allow(1, 1);
        m.forget(0);
        Setups.rule(m, 0, 1, 16, 17, 0, a, b);
        Setups.query(m, 0, 16, 17);
        m.run();
        return m.patternAt(0, 1);
    }

    private static int greatest(int patterns, int... usable) {
        int best = -1;
        for (int p : usable) {
            best = (patterns & 1 << p) != 0 ? Math.max(best, p) : best;
        }
        return best;
    }

    private static void allowSetsPatterns() {
        for (int patterns = 15; patterns >= 0; patterns--) {
            ViewMediator m = new ViewMediator();
            m.allow(0, 15 - patterns);
            checks.due("allow", m.allow(0, patterns), true);
            checks.due("both known, " + patterns, patternOf(m, 16, 17), greatest(patterns, 0, 1, 2, 3));
            checks.due("value known, " + patterns, patternOf(m, 5, 0), greatest(patterns, 0, 1, 2, 3));
            checks.due("first known, " + patterns, patternOf(m, 16, 18), greatest(patterns, 0, 1));
            checks.due("second known, " + patterns, patternOf(m, 18, 17), greatest(patterns, 0, 2));
            checks.due("none known, " + patterns, patternOf(m, 18, 19), greatest(patterns, 0));
            checks.due("none known, same, " + patterns, patternOf(m, 18, 18), greatest(patterns, 0));
        }
    }

    private static void failSetsFailures() {
        ViewMediator m = new ViewMediator();
        for (int n = 0; n <= 9; n++) {
            checks.due("fail", m.fail(3, n), true);
            checks.due("failures", m.failures(3), n);
            checks.due("failures of another", m.failures(0), 0);
        }
        checks.due("fail lower", m.fail(3, 2), true);
        checks.due("failures become, not grow", m.failures(3), 2);
        checks.due("fail(0, 9)", m.fail(0, 9), true);
        checks.due("failures(0)", m.failures(0), 9);
        checks.due("failures(3)", m.failures(3), 2);
    }
}
