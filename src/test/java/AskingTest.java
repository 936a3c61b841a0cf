/** Promises 18 and 19 on ordinary inputs: requests and tries; with the failures that a run leaves. */
final class AskingTest {
    private static final Checks checks = new Checks();

    public static void main(String[] args) {
        oneRequestForAllRows();
        requestForEveryRoad();
        sameRequestsOfOneAtom();
        sameRequestsOfSeveralAtoms();
        sameRequestsOfSeveralDisjuncts();
        otherPatternIsAnotherRequest();
        everyPartTellsRequestsApart();
        onlyWantedTermsCount();
        roadsThatEnd();
        requestsAreOfOneRun();
        roadsThroughUnusedVariables();
        roadsThroughVariablesThatMeet();
        failuresAreTriedOnce();
        failuresOfEveryNumber();
        failuresWithoutRequests();
        silentInTheMiddle();
        silentAgainAndAgain();
        checks.end();
    }

    private static void due(String what, ViewMediator m, int run, int requests, int tries) {
        checks.due(what + ": run", m.run(), run);
        checks.due(what + ": requests", m.requests(), requests);
        checks.due(what + ": tries", m.tries(), tries);
    }

    /** Relation 0 leads from 1 to 2, 3 and 4, and on to 5; relation 1 is to be asked behind it. */
    private static ViewMediator fan() {
        ViewMediator m = Setups.open();
        m.allow(0, 1);
        Setups.facts(m, 0, 1, 2, 1, 3, 1, 4, 6, 4);
        Setups.facts(m, 1, 2, 5, 3, 5, 4, 5, 4, 6);
        return m;
    }

    private static void oneRequestForAllRows() {
        ViewMediator m = fan();
        Setups.rule(m, 0, 0, 16, 17);
        Setups.query(m, 0, 16, 17);
        due("all rows", m, 4, 1, 1);
        Setups.query(m, 0, 16, 17, 0, 1, 16);
        due("all rows for two atoms", m, 0, 1, 1);
        m.allow(0, 3);
        due("all rows, then those with 1", m, 0, 2, 2);
    }

    private static void requestForEveryRoad() {
        ViewMediator m = fan();
        Setups.rule(m, 0, 0, 16, 18, 1, 18, 17);
        Setups.query(m, 0, 16, 17);
        m.allow(1, 2);
        due("second relation by its first term: 2, 3, 4", m, 4, 4, 4);
        m.allow(1, 1);
        due("second relation for all rows", m, 4, 2, 2);
        m.forget(0);
        Setups.rule(m, 0, 0, 16, 18, 1, 17, 18);
        m.allow(1, 4);
        due("second relation by its second term: 2, 3, 4", m, 0, 4, 4);
        m.forget(0);
        Setups.rule(m, 0, 0, 16, 17, 1, 17, 16);
        m.allow(1, 8);
        due("second relation by both terms", m, 1, 5, 5);
    }

    private static void sameRequestsOfOneAtom() {
        ViewMediator m = fan();
        Setups.rule(m, 0, 0, 16, 17, 1, 16, 18);
        Setups.query(m, 0, 16, 17);
        due("four roads, two values of 16", m, 0, 3, 3);
        m.forget(0);
        Setups.rule(m, 0, 0, 16, 17, 1, 17, 18);
        due("four roads, three values of 17", m, 4, 4, 4);
        m.forget(0);
        Setups.rule(m, 0, 0, 16, 17, 1, 4, 5);
        Setups.query(m, 0, 16, 17);
        due("four roads, all with the same values", m, 4, 2, 2);
    }

    private static void sameRequestsOfSeveralAtoms() {
        ViewMediator m = Setups.open();
        Setups.facts(m, 0, 1, 2, 2, 3, 3, 1);
        Setups.rule(m, 0, 0, 16, 17);
        Setups.query(m, 0, 16, 18, 0, 18, 19, 0, 19, 17);
        due("the third atom has the second one's requests", m, 3, 4, 4);
        m.retract(0, 3, 1);
        due("the third atom has one of them", m, 0, 3, 3);
        m.fact(0, 3, 4);
        due("the third atom has two of them", m, 1, 4, 4);
    }

    private static void sameRequestsOfSeveralDisjuncts() {
        ViewMediator m = fan();
        Setups.rule(m, 0, 0, 16, 18, 1, 18, 17);
        Setups.rule(m, 0, 0, 18, 16, 1, 16, 17);
        Setups.query(m, 0, 16, 17);
        checks.due("disjuncts", m.run() >= 0 ? m.disjuncts() : -1, 2);
        due("the second disjunct has nothing new", m, 8, 4, 4);
        m.forget(0);
        Setups.rule(m, 0, 0, 16, 18, 1, 18, 17);
        Setups.rule(m, 0, 0, 16, 17, 1, 16, 18);
        due("the second disjunct has 1 and 6 anew", m, 4, 6, 6);
    }

    private static void otherPatternIsAnotherRequest() {
        ViewMediator m = Setups.open();
        Setups.facts(m, 0, 0, 0);
        Setups.rule(m, 0, 0, 16, 17);
        Setups.query(m, 0, 16, 17, 0, 0, 17);
        due("0 and 3 with the values 0 and 0", m, 1, 2, 2);
        checks.due("patterns", Setups.shapes(m), "0(16,17):0 0(0,17):3");
        m.allow(0, 6);
        due("1 with 0 and 2 with 0", m, 1, 2, 2);
        checks.due("patterns", Setups.shapes(m), "0(0,17):1 0(16,17):2");
        m.forget(0);
        Setups.rule(m, 0, 1, 16, 17);
        Setups.rule(m, 0, 0, 16, 17);
        m.fact(1, 0, 0);
        m.allow(0, 1);
        m.allow(1, 1);
        Setups.query(m, 0, 16, 17);
        due("the same pattern of another relation", m, 1, 2, 2);
    }

    private static void everyPartTellsRequestsApart() {
        ViewMediator m = Setups.open();
        m.allow(1, 1);
        m.allow(0, 2);
        Setups.facts(m, 1, 0, 0);
        Setups.facts(m, 0, 0, 0);
        Setups.rule(m, 0, 1, 16, 17, 0, 16, 18);
        Setups.query(m, 0, 16, 17);
        due("relation 1 for all, relation 0 by 0", m, 1, 2, 2);
        m.allow(0, 8);
        Setups.facts(m, 1, 1, 2, 2, 1, 0, 3, 3, 0, 15, 0, 0, 15, 1, 1);
        m.forget(0);
        Setups.rule(m, 0, 1, 16, 17, 0, 16, 17);
        due("relation 0 by eight pairs", m, 1, 9, 9);
        m.forget(0);
        Setups.rule(m, 0, 1, 16, 17, 0, 17, 16);
        Setups.query(m, 0, 16, 17, 0, 17, 16);
        due("the same pairs, turned", m, 1, 9, 9);
    }

    private static void onlyWantedTermsCount() {
        ViewMediator m = fan();
        m.allow(1, 2);
        Setups.rule(m, 0, 0, 16, 17, 1, 18, 17);
        m.allow(0, 15);
        Setups.query(m, 0, 16, 17);
        m.allow(1, 4);
        due("the second term, whatever 16 is", m, 0, 4, 4);
        m.forget(0);
        Setups.rule(m, 0, 0, 16, 17, 1, 17, 16);
        m.allow(1, 2);
        due("the first term, whatever 16 is", m, 1, 4, 4);
        m.allow(1, 4);
        due("the second term, whatever 17 is", m, 1, 3, 3);
    }

    private static void roadsThatEnd() {
        ViewMediator m = fan();
        Setups.rule(m, 0, 0, 16, 18, 1, 18, 17);
        Setups.query(m, 0, 16, 18, 0, 18, 17);
        m.allow(1, 2);
        due("of 5 and 6 only 6 leads on", m, 4, 4, 4);
        Setups.query(m, 0, 9, 16, 0, 16, 17);
        m.allow(0, 2);
        due("no road beyond the first atom", m, 0, 1, 1);
        m.forget(0);
        Setups.rule(m, 0, 2, 16, 17, 1, 16, 17);
        Setups.query(m, 0, 16, 17);
        due("an empty relation first", m, 0, 1, 1);
        checks.due("order", Setups.shapes(m), "2(16,17):0 1(16,17):1");
    }

    private static void requestsAreOfOneRun() {
        ViewMediator m = fan();
        Setups.rule(m, 0, 0, 16, 18, 1, 18, 17);
        Setups.query(m, 0, 16, 17);
        for (int i = 0; i < 3; i++) {
            due("the same again", m, 4, 4, 4);
        }
    }

    private static void roadsThroughUnusedVariables() {
        ViewMediator m = Setups.open();
        Setups.facts(m, 0, 1, 1, 1, 2, 1, 3, 2, 1, 2, 4);
        Setups.facts(m, 1, 3, 7, 4, 7, 4, 8);
        Setups.rule(m, 0, 0, 16, 18, 0, 17, 19);
        Setups.rule(m, 1, 0, 16, 18, 1, 18, 17);
        Setups.query(m, 0, 16, 17);
        due("the second terms don't matter", m, 4, 1, 1);
        Setups.query(m, 1, 16, 17);
        due("the second term matters", m, 3, 5, 5);
        Setups.query(m, 0, 18, 16, 1, 16, 17);
        due("what is superfluous is not asked", m, 3, 5, 5);
        checks.due("order", Setups.shapes(m), "0(16,26):0 1(26,17):1");
    }

    private static void roadsThroughVariablesThatMeet() {
        ViewMediator m = Setups.open();
        m.allow(1, 1);
        Setups.facts(m, 0, 1, 1, 1, 2, 1, 3);
        Setups.facts(m, 1, 5, 3, 6, 2);
        Setups.rule(m, 0, 0, 16, 18, 1, 17, 18);
        Setups.query(m, 0, 16, 17);
        due("two rows meet in their second terms", m, 2, 2, 2);
        m.allow(3, 1);
        Setups.facts(m, 2, 1, 1, 2, 1, 3, 1);
        Setups.facts(m, 3, 3, 5, 2, 6);
        Setups.rule(m, 1, 2, 18, 16, 3, 18, 17);
        Setups.query(m, 1, 16, 17);
        due("two rows meet in their first terms", m, 2, 2, 2);
    }

    private static void failuresAreTriedOnce() {
        ViewMediator m = fan();
        Setups.rule(m, 0, 0, 16, 18, 1, 18, 17);
        Setups.query(m, 0, 16, 17);
        m.fail(0, 1);
        m.fail(1, 2);
        due("both fail", m, 4, 4, 7);
        checks.due("failures(0)", m.failures(0), 0);
        checks.due("failures(1)", m.failures(1), 0);
        due("none fails", m, 4, 4, 4);
        m.forget(0);
        Setups.rule(m, 0, 0, 16, 17);
        Setups.query(m, 0, 16, 18, 0, 18, 17);
        m.allow(0, 3);
        m.fail(0, 2);
        due("two atoms of one relation", m, 0, 4, 6);
    }

    private static void failuresOfEveryNumber() {
        ViewMediator m = fan();
        Setups.rule(m, 0, 0, 16, 17);
        Setups.query(m, 0, 16, 17);
        for (int n = 0; n <= 9; n++) {
            m.fail(0, n);
            if (n < 3) {
                due("failures " + n, m, 4, 1, 1 + n);
            } else {
                due("failures " + n, m, ViewMediator.SILENT, 0, 3);
            }
            checks.due("failures left of " + n, m.failures(0), n < 3 ? 0 : n - 3);
        }
    }

    private static void failuresWithoutRequests() {
        ViewMediator m = fan();
        Setups.rule(m, 0, 2, 16, 17, 1, 16, 17);
        Setups.query(m, 0, 16, 17);
        m.fail(1, 5);
        m.fail(3, 4);
        due("no road to the second atom", m, 0, 1, 1);
        checks.due("failures(1)", m.failures(1), 5);
        checks.due("failures(3)", m.failures(3), 4);
        m.fact(2, 2, 5);
        due("a road to the second atom", m, ViewMediator.SILENT, 1, 4);
        checks.due("failures(1)", m.failures(1), 2);
        m.forget(0);
        Setups.rule(m, 0, 0, 16, 17, 0, 16, 4);
        m.allow(0, 1);
        m.fail(0, 2);
        due("the second atom's request was made", m, 4, 1, 3);
        checks.due("failures(0)", m.failures(0), 0);
    }

    private static void silentInTheMiddle() {
        ViewMediator m = fan();
        Setups.rule(m, 0, 0, 16, 18, 1, 18, 17);
        Setups.rule(m, 0, 2, 16, 17, 3, 16, 17);
        m.fact(2, 1, 1);
        Setups.query(m, 0, 16, 17);
        m.fail(0, 2);
        m.fail(2, 1);
        m.fail(3, 8);
        due("the last atom is silent", m, ViewMediator.SILENT, 5, 11);
        checks.due("failures(0)", m.failures(0), 0);
        checks.due("failures(2)", m.failures(2), 0);
        checks.due("failures(3)", m.failures(3), 5);
        m.fail(1, 3);
        m.fail(2, 2);
        due("the second atom is silent", m, ViewMediator.SILENT, 1, 4);
        checks.due("failures(1)", m.failures(1), 0);
        checks.due("failures(2), not asked any more", m.failures(2), 2);
        checks.due("failures(3), not asked any more", m.failures(3), 5);
        checks.due("disjuncts", m.disjuncts(), 2);
    }

    private static void silentAgainAndAgain() {
        ViewMediator m = fan();
        Setups.rule(m, 0, 0, 16, 17);
        Setups.query(m, 0, 16, 17);
        m.fail(0, 9);
        due("9 failures", m, ViewMediator.SILENT, 0, 3);
        due("6 failures", m, ViewMediator.SILENT, 0, 3);
        due("3 failures", m, ViewMediator.SILENT, 0, 3);
        due("no failures", m, 4, 1, 1);
        m.fail(0, 8);
        due("8 failures", m, ViewMediator.SILENT, 0, 3);
        due("5 failures", m, ViewMediator.SILENT, 0, 3);
        due("2 failures", m, 4, 1, 3);
        checks.due("failures", m.failures(0), 0);
    }
}
