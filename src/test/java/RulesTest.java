import java.util.List;

/** Promises 7 to 11: rule, atom, forget, ask, clear. */
final class RulesTest {
    private static final int[] FAR = {-1, Integer.MIN_VALUE, Integer.MAX_VALUE};
    private static final Checks checks = new Checks();

    public static void main(String[] args) {
        ruleNumbers();
        ruleRefuses();
        atomGoesToTheLatestRule();
        atomTakesEveryTerm();
        atomRefuses();
        forgetTakesAllRules();
        forgetRefuses();
        askAddsToTheQuery();
        askTakesEveryTerm();
        askRefuses();
        clearEmptiesTheQuery();
        clearAndForgetLeaveTheRest();
        checks.end();
    }

    private static void ruleNumbers() {
        ViewMediator m = new ViewMediator();
        for (int v = 0; v < 3; v++) {
            checks.due("first rule", m.rule(v), 0);
        }
        for (int v = 2; v >= 0; v--) {
            checks.due("second rule", m.rule(v), 1);
        }
    }

    private static void ruleRefuses() {
        ViewMediator m = Setups.open();
        m.fact(0, 1, 2);
        checks.due("rule(3)", m.rule(3), -1);
        for (int far : FAR) {
            checks.due("rule far", m.rule(far), -1);
        }
        Setups.rule(m, 0, 0, 16, 17);
        Setups.rule(m, 0, 0, 17, 16);
        checks.due("third rule", m.rule(0), -1);
        Setups.query(m, 0, 16, 17);
        checks.due("run: no third rule, which would be BAD", m.run(), 2);
        checks.due("results of both rules", Setups.results(m), List.of(18, 33));
    }

    private static void atomGoesToTheLatestRule() {
        ViewMediator m = Setups.open();
        m.fact(0, 1, 2);
        m.fact(1, 2, 3);
        m.rule(0);
        checks.due("atom", m.atom(0, 0, 16, 18), true);
        checks.due("second atom", m.atom(0, 1, 18, 17), true);
        checks.due("third atom", m.atom(0, 0, 16, 17), false);
        m.rule(0);
        checks.due("atom of the second rule", m.atom(0, 1, 16, 17), true);
        m.rule(1);
        checks.due("atom of another view", m.atom(1, 0, 16, 17), true);
        Setups.query(m, 0, 16, 17);
        checks.due("run", m.run(), 2);
        checks.due("results", Setups.results(m), List.of(19, 35));
        checks.due("shapes", Setups.shapes(m), "0(16,22):0 1(22,17):1 | 1(16,17):0");
    }

    private static void atomTakesEveryTerm() {
        for (int t = 0; t <= 21; t++) {
            ViewMediator m = new ViewMediator();
            m.rule(2);
            checks.due("atom, first " + t, m.atom(2, 3, t, 0), true);
            checks.due("atom, second " + t, m.atom(2, 3, 0, t), true);
        }
    }

    private static void atomRefuses() {
        ViewMediator m = Setups.open();
        m.fact(0, 1, 2);
        checks.due("atom without a rule", m.atom(0, 0, 16, 17), false);
        Setups.rule(m, 1, 0, 16, 17);
        checks.due("atom without a rule of this view", m.atom(0, 0, 16, 17), false);
        Setups.rule(m, 0, 0, 16, 17);
        checks.due("atom(3, ..)", m.atom(3, 0, 1, 1), false);
        checks.due("atom(0, 4, ..)", m.atom(0, 4, 1, 1), false);
        checks.due("atom(0, 0, 22, 1)", m.atom(0, 0, 22, 1), false);
        checks.due("atom(0, 0, 1, 22)", m.atom(0, 0, 1, 22), false);
        for (int far : FAR) {
            checks.due("atom, view far", m.atom(far, 0, 1, 1), false);
            checks.due("atom, relation far", m.atom(0, far, 1, 1), false);
            checks.due("atom, a far", m.atom(0, 0, far, 1), false);
            checks.due("atom, b far", m.atom(0, 0, 1, far), false);
        }
        Setups.query(m, 0, 16, 17);
        checks.due("run after refusals", m.run(), 1);
        checks.due("size after refusals", m.size(0), 1);
    }

    private static void forgetTakesAllRules() {
        ViewMediator m = Setups.open();
        m.fact(0, 1, 2);
        Setups.rule(m, 0, 0, 16, 17, 0, 17, 16);
        Setups.rule(m, 0, 0, 16, 17);
        Setups.rule(m, 1, 0, 16, 17);
        checks.due("forget two", m.forget(0), 2);
        checks.due("forget none", m.forget(0), 0);
        checks.due("atom after forget", m.atom(0, 0, 16, 17), false);
        checks.due("rule after forget", m.rule(0), 0);
        checks.due("atom of the new rule", m.atom(0, 0, 17, 16), true);
        Setups.query(m, 0, 16, 17);
        checks.due("run: no old atoms", m.run(), 1);
        checks.due("results", Setups.results(m), List.of(33));
        checks.due("forget one", m.forget(0), 1);
        checks.due("forget another view", m.forget(1), 1);
    }

    private static void forgetRefuses() {
        ViewMediator m = Setups.open();
        for (int v = 0; v < 3; v++) {
            m.rule(v);
        }
        checks.due("forget(3)", m.forget(3), -1);
        for (int far : FAR) {
            checks.due("forget far", m.forget(far), -1);
        }
        for (int v = 0; v < 3; v++) {
            checks.due("forget after refusals", m.forget(v), 1);
        }
    }

    private static void askAddsToTheQuery() {
        ViewMediator m = Setups.open();
        Setups.facts(m, 0, 1, 2, 2, 3, 3, 4);
        Setups.rule(m, 0, 0, 16, 17);
        Setups.rule(m, 2, 0, 17, 16);
        checks.due("ask", m.ask(0, 16, 18), true);
        checks.due("second ask", m.ask(0, 18, 19), true);
        checks.due("third ask", m.ask(2, 17, 19), true);
        checks.due("fourth ask", m.ask(0, 16, 17), false);
        checks.due("run", m.run(), 1);
        checks.due("results", Setups.results(m), List.of(20));
        checks.due("shapes", Setups.shapes(m), "0(16,18):0 0(18,19):1 0(19,17):1");
    }

    private static void askTakesEveryTerm() {
        for (int t = 0; t <= 21; t++) {
            ViewMediator m = new ViewMediator();
            checks.due("ask, first " + t, m.ask(2, t, 0), true);
            checks.due("ask, second " + t, m.ask(2, 0, t), true);
        }
    }

    private static void askRefuses() {
        ViewMediator m = Setups.open();
        m.fact(0, 1, 2);
        Setups.rule(m, 0, 0, 16, 17);
        m.ask(0, 16, 17);
        checks.due("ask(3, ..)", m.ask(3, 1, 1), false);
        checks.due("ask(0, 22, 1)", m.ask(0, 22, 1), false);
        checks.due("ask(0, 1, 22)", m.ask(0, 1, 22), false);
        for (int far : FAR) {
            checks.due("ask, view far", m.ask(far, 1, 1), false);
            checks.due("ask, a far", m.ask(0, far, 1), false);
            checks.due("ask, b far", m.ask(0, 1, far), false);
        }
        checks.due("run after refusals", m.run(), 1);
        checks.due("size after refusals", m.size(0), 1);
        checks.due("room for a second", m.ask(0, 1, 2), true);
        checks.due("room for a third", m.ask(0, 1, 2), true);
        checks.due("no room for a fourth", m.ask(0, 1, 2), false);
    }

    private static void clearEmptiesTheQuery() {
        ViewMediator m = Setups.open();
        m.fact(0, 1, 2);
        Setups.rule(m, 0, 0, 16, 17);
        m.clear();
        checks.due("run of an empty query", m.run(), ViewMediator.BAD);
        Setups.query(m, 0, 16, 17, 0, 17, 16, 0, 5, 6);
        checks.due("run of three atoms", m.run(), 0);
        m.clear();
        checks.due("run after clear", m.run(), ViewMediator.BAD);
        checks.due("ask after clear", m.ask(0, 17, 16), true);
        checks.due("run of the new query", m.run(), 1);
        checks.due("results of the new query", Setups.results(m), List.of(33));
        checks.due("shapes of the new query", Setups.shapes(m), "0(17,16):0");
    }

    private static void clearAndForgetLeaveTheRest() {
        ViewMediator m = Setups.open();
        m.fact(0, 1, 2);
        m.fail(0, 2);
        Setups.rule(m, 0, 0, 16, 17);
        Setups.query(m, 0, 16, 17);
        m.run();
        m.fail(0, 1);
        m.clear();
        m.forget(0);
        checks.due("failures", m.failures(0), 1);
        checks.due("results", Setups.results(m), List.of(18));
        checks.due("shapes", Setups.shapes(m), "0(16,17):0");
        checks.due("requests", m.requests(), 1);
        checks.due("tries", m.tries(), 3);
        checks.due("rows", Setups.rows(m, 0), List.of(18));
    }
}
