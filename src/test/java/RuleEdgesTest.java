import java.util.List;

/** The boundary cases of promises 7 to 11, each sentence or part of a sentence in a test of its own. */
final class RuleEdgesTest {
    private static final int[] NO_VIEW = Outside.of(2);
    private static final int[] NO_RELATION = Outside.of(3);
    private static final int[] NO_TERM = Outside.of(21);
    private static final Checks checks = new Checks();

    public static void main(String[] args) {
        ruleBeginsZeroAndOne();
        ruleBeginsWithoutAtoms();
        ruleRefusesViews();
        ruleRefusesTheThird();
        atomTakesAllTerms();
        atomTakesAllRelations();
        atomGoesToTheLatestRule();
        atomRefusesViews();
        atomRefusesViewsWithoutRule();
        atomRefusesTheThird();
        atomRefusesRelations();
        atomRefusesTerms();
        forgetCountsNoneOneAndTwo();
        forgetLeavesRoomForTwo();
        forgetTakesNothingElse();
        forgetRefusesViews();
        askTakesAllTerms();
        askTakesAllViews();
        askRefusesTheFourth();
        askRefusesViews();
        askRefusesTerms();
        clearOfAnEmptyQuery();
        clearOfAFullQuery();
        clearTakesNothingElse();
        checks.end();
    }

    // Promise 7: "its number, 0 or 1; -1, changing nothing, when view is not 0 .. 2 or has 2 rules."

    private static void ruleBeginsZeroAndOne() {
        ViewMediator m = new ViewMediator();
        for (int v = 0; v < 3; v++) {
            checks.due("first rule(" + v + ")", m.rule(v), 0);
            checks.due("second rule(" + v + ")", m.rule(v), 1);
            checks.due("third rule(" + v + ")", m.rule(v), -1);
            checks.due("fourth rule(" + v + ")", m.rule(v), -1);
        }
    }

    private static void ruleBeginsWithoutAtoms() {
        ViewMediator m = Setups.open();
        Setups.query(m, 0, 16, 17);
        for (int i = 0; i < 3; i++) {
            checks.due("rule", m.rule(0), 0);
            checks.due("a rule without atoms is not safe", m.run(), ViewMediator.BAD);
            checks.due("first atom", m.atom(0, 0, 16, 17), true);
            checks.due("second atom", m.atom(0, 1, 16, 17), true);
            checks.due("third atom", m.atom(0, 2, 16, 17), false);
            checks.due("second rule", m.rule(0), 1);
            checks.due("nor has the second rule atoms", m.run(), ViewMediator.BAD);
            checks.due("first atom of the second rule", m.atom(0, 2, 16, 17), true);
            checks.due("second atom of the second rule", m.atom(0, 3, 16, 17), true);
            checks.due("run", m.run(), 0);
            checks.due("shapes", Setups.shapes(m), "0(16,17):0 1(16,17):3 | 2(16,17):0 3(16,17):3");
            m.forget(0);
        }
    }

    private static void ruleRefusesViews() {
        for (int v : NO_VIEW) {
            Standing.changesNothing(checks, "rule(" + v + ")", m -> m.rule(v), -1);
        }
    }

    private static void ruleRefusesTheThird() {
        Standing.changesNothing(checks, "third rule", m -> m.rule(0), -1);
        Standing.changesNothing(checks, m -> Setups.rule(m, 1, 1, 17, 16), "third rule(1)", m -> m.rule(1), -1);
        Standing.changesNothing(checks, m -> {
            m.rule(2);
            m.rule(2);
        }, "third rule(2), after two without atoms", m -> m.rule(2), -1);
    }

    // Promise 8: "true; false, changing nothing, when view is not 0 .. 2 or has no rule, that rule has 2 atoms,
    // relation is not 0 .. 3, or a or b is not 0 .. 21."

    private static void atomTakesAllTerms() {
        for (int a = 0; a <= 21; a++) {
            for (int b = 0; b <= 21; b++) {
                ViewMediator m = Setups.open();
                m.rule(0);
                checks.due("atom(0, 1, " + a + ", " + b + ")", m.atom(0, 1, a, b), true);
                checks.due("second atom", m.atom(0, 0, 16, 17), true);
                Setups.query(m, 0, 16, 17);
                m.run();
                int place = m.atomAt(0, 0) / 4096 == 1 ? 0 : 1;
                checks.due("the atom with " + a + ", " + b, m.atomAt(0, place), 4096 + 64 * shown(a) + shown(b));
            }
        }
    }

    /** What a term of a rule becomes for the query atom 0 with the terms 16 and 17. */
    private static int shown(int term) {
        return term <= 17 ? term : term + 4;
    }

    private static void atomTakesAllRelations() {
        for (int v = 0; v < 3; v++) {
            for (int r = 0; r < 4; r++) {
                ViewMediator m = Setups.open();
                m.rule(v);
                checks.due("atom(" + v + ", " + r + ", 16, 17)", m.atom(v, r, 16, 17), true);
                Setups.query(m, v, 16, 17);
                m.run();
                checks.due("shapes", Setups.shapes(m), r + "(16,17):0");
            }
        }
    }

    private static void atomGoesToTheLatestRule() {
        ViewMediator m = Setups.open();
        m.rule(0);
        m.rule(0);
        checks.due("atom of the second rule", m.atom(0, 0, 16, 17), true);
        Setups.query(m, 0, 16, 17);
        checks.due("the first rule stays without atoms", m.run(), ViewMediator.BAD);
        m.forget(0);
        m.rule(0);
        checks.due("atom of the first rule", m.atom(0, 0, 16, 17), true);
        m.rule(0);
        checks.due("the second rule has none of them", m.run(), ViewMediator.BAD);
        m.atom(0, 1, 16, 17);
        checks.due("refused third rule", m.rule(0), -1);
        checks.due("the second rule is the latest still", m.atom(0, 2, 16, 17), true);
        m.run();
        checks.due("shapes", Setups.shapes(m), "0(16,17):0 | 1(16,17):0 2(16,17):3");
    }

    private static void atomRefusesViews() {
        for (int v : NO_VIEW) {
            Standing.changesNothing(checks, "atom(" + v + ", 0, 16, 17)", m -> m.atom(v, 0, 16, 17), false);
        }
    }

    private static void atomRefusesViewsWithoutRule() {
        Standing.changesNothing(checks, "atom of a view without rule", m -> m.atom(2, 0, 16, 17), false);
        Standing.changesNothing(checks, m -> m.forget(0), "atom after forget", m -> m.atom(0, 0, 16, 17), false);
        for (int v = 0; v < 3; v++) {
            ViewMediator m = new ViewMediator();
            checks.due("atom before a rule of " + v, m.atom(v, 0, 16, 17), false);
            checks.due("atom of another view's rule", m.rule((v + 1) % 3) == 0 && m.atom(v, 0, 16, 17), false);
            checks.due("rule(" + v + ")", m.rule(v), 0);
            checks.due("no atom was kept for it: first", m.atom(v, 0, 16, 17), true);
            checks.due("no atom was kept for it: second", m.atom(v, 0, 16, 17), true);
            checks.due("third", m.atom(v, 0, 16, 17), false);
        }
    }

    private static void atomRefusesTheThird() {
        Standing.changesNothing(checks, m -> m.atom(0, 2, 17, 18), "third atom of a second rule",
                m -> m.atom(0, 3, 16, 17), false);
        Standing.changesNothing(checks, m -> m.atom(1, 2, 17, 18), "third atom of a first rule",
                m -> m.atom(1, 3, 16, 17), false);
        Standing.changesNothing(checks, m -> m.atom(1, 1, 16, 17), "third atom, the same as the others",
                m -> m.atom(1, 1, 16, 17), false);
    }

    private static void atomRefusesRelations() {
        for (int r : NO_RELATION) {
            Standing.changesNothing(checks, "atom(0, " + r + ", 16, 17)", m -> m.atom(0, r, 16, 17), false);
        }
    }

    private static void atomRefusesTerms() {
        for (int term : NO_TERM) {
            Standing.changesNothing(checks, "atom(0, 0, " + term + ", 17)", m -> m.atom(0, 0, term, 17), false);
            Standing.changesNothing(checks, "atom(1, 3, 16, " + term + ")", m -> m.atom(1, 3, 16, term), false);
            Standing.changesNothing(checks, "atom(1, 0, both " + term + ")", m -> m.atom(1, 0, term, term), false);
        }
    }

    // Promise 9: "Takes all rules out of a view: how many there were; -1 when view is not 0 .. 2."

    private static void forgetCountsNoneOneAndTwo() {
        for (int v = 0; v < 3; v++) {
            ViewMediator m = new ViewMediator();
            checks.due("forget(" + v + ") of none", m.forget(v), 0);
            m.rule(v);
            checks.due("forget(" + v + ") of one", m.forget(v), 1);
            m.rule(v);
            m.rule(v);
            checks.due("forget(" + v + ") of two", m.forget(v), 2);
            m.rule(v);
            m.rule(v);
            m.rule(v);
            checks.due("forget(" + v + ") of two and one refused", m.forget(v), 2);
            checks.due("forget(" + v + ") again", m.forget(v), 0);
        }
    }

    private static void forgetLeavesRoomForTwo() {
        ViewMediator m = Setups.open();
        Setups.rule(m, 0, 0, 16, 17);
        Setups.rule(m, 0, 1, 16, 17);
        Setups.query(m, 0, 16, 17);
        m.forget(0);
        checks.due("run without rules", m.run(), ViewMediator.BAD);
        checks.due("first rule", m.rule(0), 0);
        m.atom(0, 2, 16, 17);
        checks.due("one rule", m.run(), 0);
        checks.due("one disjunct", Setups.shapes(m), "2(16,17):0");
        checks.due("second rule", m.rule(0), 1);
        checks.due("third rule", m.rule(0), -1);
    }

    private static void forgetTakesNothingElse() {
        Standing.changesNothing(checks, "forget of none", m -> m.forget(2), 0);
        String due = Standing.text(m -> {
            m.forget(0);
            Setups.rule(m, 0, 0, 16, 18, 0, 18, 17);
            Setups.rule(m, 0, 0, 16, 17);
        });
        checks.due("what stands after forget and the same rules", due, Standing.DUE);
        ViewMediator m = Standing.make();
        checks.due("forget(0)", m.forget(0), 2);
        checks.due("forget(1)", m.forget(1), 1);
        checks.due("the latest run's results", Setups.results(m), List.of(13, 14, 29, 31, 46, 47));
        checks.due("the latest run's disjuncts", Setups.shapes(m),
                "0(16,22):0 0(22,18):1 1(18,17):1 | 0(16,18):0 1(18,17):1");
    }

    private static void forgetRefusesViews() {
        for (int v : NO_VIEW) {
            Standing.changesNothing(checks, "forget(" + v + ")", m -> m.forget(v), -1);
        }
    }

    // Promise 10: "true; false, changing nothing, when it has 3, view is not 0 .. 2, or a or b is not 0 .. 21."

    private static void askTakesAllTerms() {
        for (int a = 0; a <= 21; a++) {
            for (int b = 0; b <= 21; b++) {
                ViewMediator m = Setups.open();
                Setups.rule(m, 0, 0, 16, 17);
                Setups.rule(m, 1, 1, 16, 17);
                checks.due("ask(1, " + a + ", " + b + ")", m.ask(1, a, b), true);
                checks.due("second ask", m.ask(0, 16, 17), true);
                m.run();
                int place = m.atomAt(0, 0) / 4096 == 1 ? 0 : 1;
                checks.due("the atom with " + a + ", " + b, m.atomAt(0, place), 4096 + 64 * a + b);
            }
        }
    }

    private static void askTakesAllViews() {
        for (int v = 0; v < 3; v++) {
            ViewMediator m = Setups.open();
            Setups.rule(m, v, v + 1, 16, 17);
            checks.due("ask(" + v + ", 16, 17)", m.ask(v, 16, 17), true);
            checks.due("run", m.run(), 0);
            checks.due("shapes", Setups.shapes(m), (v + 1) + "(16,17):0");
        }
    }

    private static void askRefusesTheFourth() {
        ViewMediator m = Setups.open();
        m.fact(0, 1, 2);
        Setups.rule(m, 0, 0, 16, 17);
        checks.due("first ask", m.ask(0, 16, 18), true);
        checks.due("second ask", m.ask(0, 17, 19), true);
        checks.due("third ask", m.ask(0, 18, 16), true);
        checks.due("fourth ask", m.ask(0, 5, 6), false);
        checks.due("fifth ask", m.ask(0, 16, 17), false);
        m.run();
        checks.due("three atoms, no more", Setups.shapes(m), "0(16,18):0 0(17,19):0 0(18,16):3");
        Standing.changesNothing(checks, s -> s.ask(1, 16, 17), "fourth ask", s -> s.ask(0, 16, 17), false);
        Standing.changesNothing(checks, s -> s.ask(1, 16, 17), "fourth ask, not safe", s -> s.ask(2, 0, 0), false);
        Standing.changesNothing(checks, s -> s.ask(1, 16, 17), "fourth ask, no view", s -> s.ask(3, 16, 17), false);
    }

    private static void askRefusesViews() {
        for (int v : NO_VIEW) {
            Standing.changesNothing(checks, "ask(" + v + ", 16, 17)", m -> m.ask(v, 16, 17), false);
        }
    }

    private static void askRefusesTerms() {
        for (int term : NO_TERM) {
            Standing.changesNothing(checks, "ask(0, " + term + ", 17)", m -> m.ask(0, term, 17), false);
            Standing.changesNothing(checks, "ask(1, 16, " + term + ")", m -> m.ask(1, 16, term), false);
            Standing.changesNothing(checks, "ask(2, both " + term + ")", m -> m.ask(2, term, term), false);
        }
    }

    // Promise 11: "Makes the query empty."

    private static void clearOfAnEmptyQuery() {
        Standing.changesNothing(checks, ViewMediator::clear, "clear of an empty query", m -> {
            m.clear();
            return 0;
        }, 0);
    }

    private static void clearOfAFullQuery() {
        for (int size = 0; size <= 3; size++) {
            ViewMediator m = Setups.open();
            Setups.rule(m, 0, 0, 16, 17);
            for (int i = 0; i < size; i++) {
                m.ask(0, 16, 17);
            }
            m.clear();
            checks.due("run after clear of " + size, m.run(), ViewMediator.BAD);
            checks.due("first ask after clear of " + size, m.ask(0, 17, 16), true);
            checks.due("run of one", m.run(), 0);
            checks.due("shapes of one", Setups.shapes(m), "0(17,16):0");
            checks.due("second ask", m.ask(0, 17, 16), true);
            checks.due("third ask", m.ask(0, 17, 16), true);
            checks.due("fourth ask", m.ask(0, 17, 16), false);
        }
    }

    private static void clearTakesNothingElse() {
        String due = Standing.text(m -> {
            m.clear();
            m.ask(0, 16, 18);
            m.ask(1, 18, 17);
        });
        checks.due("what stands after clear and the same query", due, Standing.DUE);
    }
}
