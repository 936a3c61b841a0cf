import java.util.List;

/** Promises 1 to 6: a new object, fact, retract, allow, fail, failures. */
final class RelationsTest {
    private static final int[] FAR = {-1, Integer.MIN_VALUE, Integer.MAX_VALUE};
    private static final Checks checks = new Checks();

    public static void main(String[] args) {
        newObject();
        newObjectHasNoPatternsAndNoRows();
        objectsAreApart();
        factPutsRows();
        factRefuses();
        factHoldsEightRows();
        retractTakesRows();
        retractRefuses();
        allowSetsPatterns();
        allowRefuses();
        failSetsFailures();
        failRefuses();
        checks.end();
    }

    private static void newObject() {
        ViewMediator m = new ViewMediator();
        for (int r = 0; r < 4; r++) {
            checks.due("new: failures", m.failures(r), 0);
        }
        for (int v = 0; v < 3; v++) {
            checks.due("new: atom", m.atom(v, 0, 16, 17), false);
            checks.due("new: forget", m.forget(v), 0);
        }
        checks.due("new: disjuncts", m.disjuncts(), 0);
        checks.due("new: size", m.size(0), -1);
        checks.due("new: atomAt", m.atomAt(0, 0), -1);
        checks.due("new: patternAt", m.patternAt(0, 0), -1);
        checks.due("new: result", m.result(0), -1);
        checks.due("new: requests", m.requests(), 0);
        checks.due("new: tries", m.tries(), 0);
        checks.due("new: run", m.run(), ViewMediator.BAD);
        checks.due("new: disjuncts after BAD", m.disjuncts(), 0);
    }

    private static void newObjectHasNoPatternsAndNoRows() {
        for (int r = 0; r < 4; r++) {
            ViewMediator m = new ViewMediator();
            for (int x = 0; x < 16; x++) {
                checks.due("new: retract", m.retract(r, x, 0) || m.retract(r, 0, x), false);
            }
            Setups.rule(m, 0, r, 16, 17);
            Setups.query(m, 0, 16, 17);
            checks.due("new: no patterns", m.run(), ViewMediator.BLOCKED);
            checks.due("new: no rows", Setups.rows(m, r), List.of());
        }
    }

    private static void objectsAreApart() {
        ViewMediator one = new ViewMediator();
        ViewMediator other = new ViewMediator();
        one.fact(0, 1, 2);
        one.fail(0, 5);
        one.rule(0);
        checks.due("other object: fact", other.fact(0, 1, 2), true);
        checks.due("other object: failures", other.failures(0), 0);
        checks.due("other object: rule", other.rule(0), 0);
    }

    private static void factPutsRows() {
        ViewMediator m = new ViewMediator();
        checks.due("fact", m.fact(0, 3, 1), true);
        checks.due("fact, turned", m.fact(0, 1, 3), true);
        checks.due("fact again", m.fact(0, 3, 1), false);
        checks.due("fact, other relation", m.fact(1, 3, 1), true);
        checks.due("fact, last of all", m.fact(3, 15, 15), true);
        checks.due("fact, first of all", m.fact(2, 0, 0), true);
        checks.due("rows 0", Setups.rows(m, 0), List.of(19, 49));
        checks.due("rows 1", Setups.rows(m, 1), List.of(49));
        checks.due("rows 2", Setups.rows(m, 2), List.of(0));
        checks.due("rows 3", Setups.rows(m, 3), List.of(255));
    }

    private static void factRefuses() {
        ViewMediator m = new ViewMediator();
        m.fact(0, 1, 1);
        checks.due("fact(4, 1, 2)", m.fact(4, 1, 2), false);
        checks.due("fact(0, 16, 2)", m.fact(0, 16, 2), false);
        checks.due("fact(0, 2, 16)", m.fact(0, 2, 16), false);
        for (int far : FAR) {
            checks.due("fact, relation far", m.fact(far, 1, 2), false);
            checks.due("fact, x far", m.fact(0, far, 2), false);
            checks.due("fact, y far", m.fact(0, 2, far), false);
        }
        checks.due("rows after refusals", Setups.rows(m, 0), List.of(17));
    }

    private static void factHoldsEightRows() {
        ViewMediator m = new ViewMediator();
        for (int i = 0; i < 8; i++) {
            checks.due("fact of eight", m.fact(2, i, 15 - i), true);
        }
        checks.due("ninth fact", m.fact(2, 8, 8), false);
        checks.due("row that is there among eight", m.fact(2, 0, 15), false);
        checks.due("other relation beside a full one", m.fact(1, 8, 8), true);
        checks.due("eight rows", Setups.rows(m, 2), List.of(15, 30, 45, 60, 75, 90, 105, 120));
        checks.due("retract of eight", m.retract(2, 3, 12), true);
        checks.due("fact into the gap", m.fact(2, 8, 8), true);
        checks.due("ninth fact again", m.fact(2, 9, 9), false);
        checks.due("eight rows anew", Setups.rows(m, 2), List.of(15, 30, 45, 75, 90, 105, 120, 136));
    }

    private static void retractTakesRows() {
        ViewMediator m = new ViewMediator();
        Setups.facts(m, 0, 1, 1, 2, 2, 3, 3, 4, 4);
        m.fact(1, 2, 2);
        checks.due("retract in the middle", m.retract(0, 2, 2), true);
        checks.due("retract again", m.retract(0, 2, 2), false);
        checks.due("rows left", Setups.rows(m, 0), List.of(17, 51, 68));
        checks.due("retract the last", m.retract(0, 4, 4), true);
        checks.due("retract the first", m.retract(0, 1, 1), true);
        checks.due("rows left", Setups.rows(m, 0), List.of(51));
        checks.due("retract the only", m.retract(0, 3, 3), true);
        checks.due("rows left", Setups.rows(m, 0), List.of());
        checks.due("other relation", Setups.rows(m, 1), List.of(34));
        checks.due("fact after retract", m.fact(0, 3, 3), true);
        checks.due("rows anew", Setups.rows(m, 0), List.of(51));
    }

    private static void retractRefuses() {
        ViewMediator m = new ViewMediator();
        Setups.facts(m, 0, 0, 0, 1, 2);
        checks.due("retract turned", m.retract(0, 2, 1), false);
        checks.due("retract from another", m.retract(1, 1, 2), false);
        checks.due("retract(4, 0, 0)", m.retract(4, 0, 0), false);
        checks.due("retract(0, 16, 0)", m.retract(0, 16, 0), false);
        checks.due("retract(0, 0, 16)", m.retract(0, 0, 16), false);
        for (int far : FAR) {
            checks.due("retract, relation far", m.retract(far, 0, 0), false);
            checks.due("retract, x far", m.retract(0, far, 0), false);
            checks.due("retract, y far", m.retract(0, 0, far), false);
        }
        checks.due("rows after refusals", Setups.rows(m, 0), List.of(0, 18));
    }

    /** The pattern of relation 0, asked behind relation 1, which makes 16 and 17 known; -1 if it is blocked. */
    private static int patternOf(ViewMediator m, int a, int b) {
        m.allow(1, 1);
        m.forget(0);
        Setups.rule(m, 0, 1, 16, 17, 0, a, b);
        Setups.query(m, 0, 16, 17);
        m.run();
        return m.patternAt(0, 1);
    }

    private static int greatest(int patterns, int... usable) {
        int best = -1;
        for (int p : usable) {
            best = (patterns & 1 << p) != 0 ? Math.max(best, p) : best;
        }
        return best;
    }

    private static void allowSetsPatterns() {
        for (int patterns = 15; patterns >= 0; patterns--) {
            ViewMediator m = new ViewMediator();
            m.allow(0, 15 - patterns);
            checks.due("allow", m.allow(0, patterns), true);
            checks.due("both known, " + patterns, patternOf(m, 16, 17), greatest(patterns, 0, 1, 2, 3));
            checks.due("value known, " + patterns, patternOf(m, 5, 0), greatest(patterns, 0, 1, 2, 3));
            checks.due("first known, " + patterns, patternOf(m, 16, 18), greatest(patterns, 0, 1));
            checks.due("second known, " + patterns, patternOf(m, 18, 17), greatest(patterns, 0, 2));
            checks.due("none known, " + patterns, patternOf(m, 18, 19), greatest(patterns, 0));
            checks.due("none known, same, " + patterns, patternOf(m, 18, 18), greatest(patterns, 0));
        }
    }

    private static void allowRefuses() {
        ViewMediator m = new ViewMediator();
        m.allow(0, 4);
        checks.due("allow(0, 16)", m.allow(0, 16), false);
        checks.due("allow(4, 1)", m.allow(4, 1), false);
        for (int far : FAR) {
            checks.due("allow, relation far", m.allow(far, 1), false);
            checks.due("allow, patterns far", m.allow(0, far), false);
        }
        checks.due("pattern after refusals", patternOf(m, 16, 17), 2);
        m.allow(3, 15);
        checks.due("pattern after another's", patternOf(m, 16, 17), 2);
    }

    private static void failSetsFailures() {
        ViewMediator m = new ViewMediator();
        for (int n = 0; n <= 9; n++) {
            checks.due("fail", m.fail(3, n), true);
            checks.due("failures", m.failures(3), n);
            checks.due("failures of another", m.failures(0), 0);
        }
        checks.due("fail lower", m.fail(3, 2), true);
        checks.due("failures become, not grow", m.failures(3), 2);
        checks.due("fail(0, 9)", m.fail(0, 9), true);
        checks.due("failures(0)", m.failures(0), 9);
        checks.due("failures(3)", m.failures(3), 2);
    }

    private static void failRefuses() {
        ViewMediator m = new ViewMediator();
        m.fail(0, 4);
        checks.due("fail(0, 10)", m.fail(0, 10), false);
        checks.due("fail(4, 1)", m.fail(4, 1), false);
        checks.due("failures(4)", m.failures(4), -1);
        for (int far : FAR) {
            checks.due("fail, relation far", m.fail(far, 1), false);
            checks.due("fail, n far", m.fail(0, far), false);
            checks.due("failures far", m.failures(far), -1);
        }
        checks.due("failures after refusals", m.failures(0), 4);
    }
}
