import java.util.List;

/** Promises 12 and 13 on ordinary inputs: run and result. */
final class RunTest {
    private static final Checks checks = new Checks();

    public static void main(String[] args) {
        badQuery();
        badViews();
        badComesBeforeBlocked();
        badChangesNothing();
        blockedAsksNothing();
        blockedOnlyByWhatIsLeft();
        blockedComesBeforeSilent();
        silentHasNoResults();
        runSeesThingsAsTheyAre();
        latestRunStays();
        resultsByGrowingPair();
        resultsOfSeveralDisjuncts();
        resultsOfValuesAndRepeatedVariables();
        checks.end();
    }

    private static void badQuery() {
        ViewMediator m = Setups.open();
        m.fact(0, 1, 1);
        Setups.rule(m, 0, 0, 16, 17);
        checks.due("no atoms", m.run(), ViewMediator.BAD);
        Setups.query(m, 0, 16, 18);
        checks.due("without 17", m.run(), ViewMediator.BAD);
        Setups.query(m, 0, 18, 17, 0, 17, 17, 0, 1, 17);
        checks.due("without 16", m.run(), ViewMediator.BAD);
        Setups.query(m, 0, 1, 1);
        checks.due("without both", m.run(), ViewMediator.BAD);
        Setups.query(m, 0, 17, 16);
        checks.due("in one atom, turned", m.run(), 1);
        Setups.query(m, 0, 1, 17, 0, 16, 1);
        checks.due("in two atoms", m.run(), 1);
        Setups.query(m, 0, 16, 1, 0, 1, 1, 0, 18, 17);
        checks.due("in the first and the last", m.run(), 1);
    }

    private static void badViews() {
        ViewMediator m = Setups.open();
        m.fact(0, 1, 1);
        Setups.query(m, 0, 16, 17);
        checks.due("view without rules", m.run(), ViewMediator.BAD);
        m.rule(0);
        checks.due("rule without atoms", m.run(), ViewMediator.BAD);
        m.atom(0, 0, 16, 18);
        checks.due("rule without 17", m.run(), ViewMediator.BAD);
        m.atom(0, 0, 18, 17);
        checks.due("safe in two atoms", m.run(), 1);
        m.rule(0);
        checks.due("second rule without atoms", m.run(), ViewMediator.BAD);
        m.atom(0, 0, 17, 1);
        checks.due("second rule without 16", m.run(), ViewMediator.BAD);
        m.atom(0, 0, 16, 16);
        checks.due("second rule safe", m.run(), 1);
        m.rule(1);
        checks.due("rule of a view that is not asked", m.run(), 1);
        m.ask(1, 16, 17);
        checks.due("second atom's view not safe", m.run(), ViewMediator.BAD);
        m.forget(1);
        checks.due("second atom's view without rules", m.run(), ViewMediator.BAD);
        Setups.query(m, 0, 16, 17, 0, 16, 17, 2, 16, 17);
        checks.due("third atom's view without rules", m.run(), ViewMediator.BAD);
        Setups.rule(m, 2, 0, 17, 16);
        checks.due("third atom's view safe", m.run(), 1);
    }

    private static void badComesBeforeBlocked() {
        ViewMediator m = new ViewMediator();
        Setups.rule(m, 0, 0, 16, 17);
        m.rule(0);
        Setups.query(m, 0, 16, 17);
        checks.due("blocked, but bad", m.run(), ViewMediator.BAD);
        m.atom(0, 0, 16, 17);
        checks.due("blocked", m.run(), ViewMediator.BLOCKED);
    }

    private static void badChangesNothing() {
        ViewMediator m = Setups.open();
        Setups.facts(m, 0, 1, 2, 2, 3);
        m.fail(0, 1);
        Setups.rule(m, 0, 0, 16, 17, 0, 16, 5);
        Setups.rule(m, 0, 0, 16, 17);
        Setups.query(m, 0, 16, 17);
        checks.due("run", m.run(), 2);
        m.fail(0, 7);
        m.rule(1);
        m.ask(1, 1, 1);
        checks.due("bad run", m.run(), ViewMediator.BAD);
        checks.due("failures", m.failures(0), 7);
        checks.due("results", Setups.results(m), List.of(18, 35));
        checks.due("shapes", Setups.shapes(m), "0(16,17):0");
        checks.due("requests", m.requests(), 1);
        checks.due("tries", m.tries(), 2);
        m.clear();
        checks.due("bad run of nothing", m.run(), ViewMediator.BAD);
        checks.due("disjuncts", m.disjuncts(), 1);
        checks.due("results", Setups.results(m), List.of(18, 35));
    }

    private static void blockedAsksNothing() {
        ViewMediator m = Setups.open();
        m.fact(0, 1, 2);
        m.fact(1, 1, 2);
        Setups.rule(m, 0, 0, 16, 17);
        Setups.rule(m, 0, 1, 16, 17);
        Setups.query(m, 0, 16, 17);
        checks.due("run", m.run(), 1);
        checks.due("requests", m.requests(), 2);
        m.allow(1, 14);
        m.fail(0, 2);
        checks.due("second disjunct blocked", m.run(), ViewMediator.BLOCKED);
        checks.due("failures", m.failures(0), 2);
        checks.due("results", Setups.results(m), List.of());
        checks.due("requests", m.requests(), 0);
        checks.due("tries", m.tries(), 0);
        checks.due("shapes", Setups.shapes(m), "0(16,17):0 | 1(16,17):-1");
        m.allow(1, 1);
        m.allow(0, 0);
        checks.due("first disjunct blocked", m.run(), ViewMediator.BLOCKED);
        checks.due("shapes", Setups.shapes(m), "0(16,17):-1 | 1(16,17):0");
        m.allow(0, 15);
        checks.due("not blocked again", m.run(), 1);
        checks.due("tries", m.tries(), 4);
    }

    private static void blockedOnlyByWhatIsLeft() {
        ViewMediator m = new ViewMediator();
        m.fact(0, 1, 2);
        m.allow(0, 1);
        Setups.rule(m, 0, 0, 16, 17, 1, 16, 17);
        Setups.rule(m, 0, 0, 16, 17);
        Setups.query(m, 0, 16, 17);
        checks.due("the blocked one is dropped", m.run(), 1);
        checks.due("shapes", Setups.shapes(m), "0(16,17):0");
        m.allow(0, 8);
        checks.due("pattern 3 with one known", blockedBy(m, 0, 16, 17), ViewMediator.BLOCKED);
        checks.due("pattern 3 with two known", blockedBy(m, 1, 16, 17), 1);
    }

    private static int blockedBy(ViewMediator m, int helper, int a, int b) {
        m.allow(1, 1);
        m.fact(1, 1, 2);
        m.forget(0);
        Setups.rule(m, 0, helper, 16, b, 0, a, 17);
        Setups.query(m, 0, 16, 17);
        return m.run();
    }

    private static void blockedComesBeforeSilent() {
        ViewMediator m = new ViewMediator();
        m.allow(0, 1);
        m.fail(0, 9);
        Setups.rule(m, 0, 0, 16, 17);
        Setups.rule(m, 0, 1, 16, 17);
        Setups.query(m, 0, 16, 17);
        checks.due("run", m.run(), ViewMediator.BLOCKED);
        checks.due("failures", m.failures(0), 9);
    }

    private static void silentHasNoResults() {
        ViewMediator m = Setups.open();
        m.fact(0, 1, 2);
        Setups.rule(m, 0, 0, 16, 17);
        Setups.rule(m, 0, 1, 16, 17);
        Setups.query(m, 0, 16, 17);
        checks.due("run", m.run(), 1);
        m.fail(1, 3);
        checks.due("silent in the second disjunct", m.run(), ViewMediator.SILENT);
        checks.due("results", Setups.results(m), List.of());
        checks.due("disjuncts", m.disjuncts(), 2);
        checks.due("run again", m.run(), 1);
        checks.due("results again", Setups.results(m), List.of(18));
    }

    private static void runSeesThingsAsTheyAre() {
        ViewMediator m = Setups.open();
        Setups.rule(m, 0, 0, 16, 17);
        Setups.query(m, 0, 16, 17);
        checks.due("no rows", m.run(), 0);
        m.fact(0, 1, 2);
        checks.due("a row", m.run(), 1);
        m.fact(0, 2, 1);
        checks.due("another row", m.run(), 2);
        m.retract(0, 1, 2);
        checks.due("a row less", m.run(), 1);
        checks.due("results", Setups.results(m), List.of(33));
        Setups.rule(m, 0, 0, 17, 16);
        checks.due("another rule", m.run(), 2);
        m.atom(0, 0, 16, 16);
        checks.due("another atom of it", m.run(), 1);
        m.ask(0, 17, 16);
        checks.due("another atom of the query", m.run(), 0);
    }

    private static void latestRunStays() {
        ViewMediator m = Setups.open();
        Setups.facts(m, 0, 1, 2, 2, 2);
        Setups.rule(m, 0, 0, 16, 18, 0, 18, 17);
        Setups.query(m, 0, 16, 17);
        checks.due("run", m.run(), 2);
        String shapes = Setups.shapes(m);
        m.retract(0, 1, 2);
        m.fact(0, 0, 0);
        m.allow(0, 0);
        m.forget(0);
        Setups.rule(m, 0, 3, 16, 17);
        m.fail(0, 3);
        m.ask(1, 4, 4);
        checks.due("results", Setups.results(m), List.of(18, 34));
        checks.due("shapes", Setups.shapes(m), shapes);
        checks.due("requests", m.requests(), 2);
        checks.due("tries", m.tries(), 2);
    }

    private static void resultsByGrowingPair() {
        ViewMediator m = Setups.open();
        Setups.facts(m, 0, 9, 1, 1, 9, 0, 15, 15, 0, 1, 0, 0, 0, 15, 15, 1, 10);
        Setups.rule(m, 0, 0, 16, 17);
        Setups.query(m, 0, 16, 17);
        checks.due("run", m.run(), 8);
        checks.due("results", Setups.results(m), List.of(0, 15, 16, 25, 26, 145, 240, 255));
        Setups.query(m, 0, 17, 16);
        checks.due("run, turned", m.run(), 8);
        checks.due("results, turned", Setups.results(m), List.of(0, 1, 15, 25, 145, 161, 240, 255));
    }

    private static void resultsOfSeveralDisjuncts() {
        ViewMediator m = Setups.open();
        Setups.facts(m, 0, 1, 2, 2, 3);
        Setups.facts(m, 1, 2, 3, 0, 1);
        Setups.rule(m, 0, 0, 16, 17);
        Setups.rule(m, 0, 1, 16, 17);
        Setups.query(m, 0, 16, 17);
        checks.due("a pair of both counts once", m.run(), 3);
        checks.due("results", Setups.results(m), List.of(1, 18, 35));
        Setups.query(m, 0, 16, 18, 0, 18, 17);
        checks.due("two steps", m.run(), 2);
        checks.due("results of two steps", Setups.results(m), List.of(2, 19));
        Setups.query(m, 0, 16, 18, 0, 19, 17);
        checks.due("all pairs", m.run(), 9);
        checks.due("results of all pairs", Setups.results(m), List.of(1, 2, 3, 17, 18, 19, 33, 34, 35));
    }

    private static void resultsOfValuesAndRepeatedVariables() {
        ViewMediator m = Setups.open();
        Setups.facts(m, 0, 1, 1, 1, 2, 2, 1, 3, 3, 4, 2);
        Setups.rule(m, 0, 0, 16, 17);
        Setups.query(m, 0, 16, 16, 0, 16, 17);
        checks.due("16 twice", m.run(), 3);
        checks.due("results", Setups.results(m), List.of(17, 18, 51));
        Setups.query(m, 0, 16, 2, 0, 2, 17);
        checks.due("through 2", m.run(), 2);
        checks.due("results", Setups.results(m), List.of(17, 65));
        Setups.query(m, 0, 16, 17, 0, 17, 16, 0, 4, 2);
        checks.due("there and back, with a row that is there", m.run(), 4);
        Setups.query(m, 0, 16, 17, 0, 17, 16, 0, 4, 1);
        checks.due("there and back, with a row that is not there", m.run(), 0);
        m.forget(0);
        Setups.rule(m, 0, 0, 16, 16, 0, 17, 2);
        Setups.query(m, 0, 16, 17);
        checks.due("rule with a value", m.run(), 4);
        checks.due("results", Setups.results(m), List.of(17, 20, 49, 52));
        Setups.query(m, 0, 3, 16, 0, 16, 17);
        checks.due("the rule's 16 is the value 3", m.run(), 2);
        checks.due("results", Setups.results(m), List.of(17, 20));
    }
}
