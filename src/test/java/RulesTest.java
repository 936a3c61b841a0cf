import java.util.List;

/** Promises 7 to 11 on ordinary inputs: rule, atom, forget, ask, clear. */
final class RulesTest {
    private static final Checks checks = new Checks();

    public static void main(String[] args) {
        ruleNumbers();
        atomGoesToTheLatestRule();
        forgetTakesAllRules();
        askAddsToTheQuery();
        clearEmptiesTheQuery();
        clearAndForgetLeaveTheRest();
        checks.end();
    }

    private static void ruleNumbers() {
        ViewMediator m = new ViewMediator();
        for (int v = 0; v < 3; v++) {
            checks.due("first rule", m.rule(v), 0);
        }
        for (int v = 2; v >= 0; v--) {
            checks.due("second rule", m.rule(v), 1);
        }
    }

    private static void atomGoesToTheLatestRule() {
        ViewMediator m = Setups.open();
        m.fact(0, 1, 2);
        m.fact(1, 2, 3);
        m.rule(0);
        checks.due("atom", m.atom(0, 0, 16, 18), true);
        checks.due("second atom", m.atom(0, 1, 18, 17), true);
        checks.due("third atom", m.atom(0, 0, 16, 17), false);
        m.rule(0);
        checks.due("atom of the second rule", m.atom(0, 1, 16, 17), true);
        m.rule(1);
        checks.due("atom of another view", m.atom(1, 0, 16, 17), true);
        Setups.query(m, 0, 16, 17);
        checks.due("run", m.run(), 2);
        checks.due("results", Setups.results(m), List.of(19, 35));
        checks.due("shapes", Setups.shapes(m), "0(16,22):0 1(22,17):1 | 1(16,17):0");
    }

    private static void forgetTakesAllRules() {
        ViewMediator m = Setups.open();
        m.fact(0, 1, 2);
        Setups.rule(m, 0, 0, 16, 17, 0, 17, 16);
        Setups.rule(m, 0, 0, 16, 17);
        Setups.rule(m, 1, 0, 16, 17);
        checks.due("forget two", m.forget(0), 2);
        checks.due("forget none", m.forget(0), 0);
        checks.due("atom after forget", m.atom(0, 0, 16, 17), false);
        checks.due("rule after forget", m.rule(0), 0);
        checks.due("atom of the new rule", m.atom(0, 0, 17, 16), true);
        Setups.query(m, 0, 16, 17);
        checks.due("run: no old atoms", m.run(), 1);
        checks.due("results", Setups.results(m), List.of(33));
        checks.due("forget one", m.forget(0), 1);
        checks.due("forget another view", m.forget(1), 1);
    }

    private static void askAddsToTheQuery() {
        ViewMediator m = Setups.open();
        Setups.facts(m, 0, 1, 2, 2, 3, 3, 4);
        Setups.rule(m, 0, 0, 16, 17);
        Setups.rule(m, 2, 0, 17, 16);
        checks.due("ask", m.ask(0, 16, 18), true);
        checks.due("second ask", m.ask(0, 18, 19), true);
        checks.due("third ask", m.ask(2, 17, 19), true);
        checks.due("fourth ask", m.ask(0, 16, 17), false);
        checks.due("run", m.run(), 1);
        checks.due("results", Setups.results(m), List.of(20));
        checks.due("shapes", Setups.shapes(m), "0(16,18):0 0(18,19):1 0(19,17):1");
    }

    private static void clearEmptiesTheQuery() {
        ViewMediator m = Setups.open();
        m.fact(0, 1, 2);
        Setups.rule(m, 0, 0, 16, 17);
        m.clear();
        checks.due("run of an empty query", m.run(), ViewMediator.BAD);
        Setups.query(m, 0, 16, 17, 0, 17, 16, 0, 5, 6);
        checks.due("run of three atoms", m.run(), 0);
        m.clear();
        checks.due("run after clear", m.run(), ViewMediator.BAD);
        checks.due("ask after clear", m.ask(0, 17, 16), true);
        checks.due("run of the new query", m.run(), 1);
        checks.due("results of the new query", Setups.results(m), List.of(33));
        checks.due("shapes of the new query", Setups.shapes(m), "0(17,16):0");
    }

    private static void clearAndForgetLeaveTheRest() {
        ViewMediator m = Setups.open();
        m.fact(0, 1, 2);
        m.fail(0, 2);
        Setups.rule(m, 0, 0, 16, 17);
        Setups.query(m, 0, 16, 17);
        m.run();
        m.fail(0, 1);
        m.clear();
        m.forget(0);
        checks.due("failures", m.failures(0), 1);
        checks.due("results", Setups.results(m), List.of(18));
        checks.due("shapes", Setups.shapes(m), "0(16,17):0");
        checks.due("requests", m.requests(), 1);
        checks.due("tries", m.tries(), 3);
        checks.due("rows", Setups.rows(m, 0), List.of(18));
    }
}
