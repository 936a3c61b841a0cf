/** The boundary cases of asking and of promises 18 and 19, each sentence or part of a sentence in a test of its own. */
final class AskingEdgesTest {
    private static final int SILENT = ViewMediator.SILENT;
    private static final Checks checks = new Checks();

    public static void main(String[] args) {
        oneRoadBeforeTheFirstAtom();
        oneRoadForEveryPattern();
        noRoadNoRequest();
        eightRoads();
        sixtyFourRoads();
        allPairsAreAsked();
        wantedTermsAlone();
        sameRequestsAreOne();
        requestsOfOtherRelationsPatternsAndValues();
        anyTwoRequestsAreToldApart();
        requestsMadeBefore();
        requestsOfAnotherRun();
        twoFailuresAndThree();
        failuresWithManyRequests();
        failuresBecomeZeroOnce();
        failuresOfOthersStay();
        silentAtTheFirstAtom();
        silentAtTheLastAtom();
        silentUntilFailuresAreFew();
        nothingWithoutARun();
        nothingAfterBlocked();
        theSameAfterBad();
        checks.end();
    }

    private static void due(String what, ViewMediator m, int run, int requests, int tries) {
        checks.due(what + ": run", m.run(), run);
        checks.due(what + ": requests", m.requests(), requests);
        checks.due(what + ": tries", m.tries(), tries);
    }

    private static void failuresDue(String what, ViewMediator m, int... want) {
        for (int r = 0; r < want.length; r++) {
            checks.due(what + ": failures(" + r + ")", m.failures(r), want[r]);
        }
    }

    /** An object whose query asks for all rows of relation 0, which are (i, i + 8) for i from 0 to 7. */
    private static ViewMediator withEightRows() {
        ViewMediator m = Setups.open();
        for (int i = 0; i < 8; i++) {
            m.fact(0, i, i + 8);
        }
        Setups.rule(m, 0, 0, 16, 17);
        Setups.query(m, 0, 16, 17);
        return m;
    }

    // ASKING: "before the first atom there is one road, with no variables"

    private static void oneRoadBeforeTheFirstAtom() {
        ViewMediator m = withEightRows();
        due("eight rows", m, 8, 1, 1);
        for (int i = 0; i < 8; i++) {
            m.retract(0, i, i + 8);
            due((7 - i) + " rows", m, 7 - i, 1, 1);
        }
    }

    private static void oneRoadForEveryPattern() {
        for (int p = 0; p < 4; p++) {
            ViewMediator m = new ViewMediator();
            m.allow(0, 1 << p);
            m.allow(1, 1);
            Setups.rule(m, 0, 0, (p & 1) != 0 ? 5 : 18, (p & 2) != 0 ? 6 : 19, 1, 16, 17);
            Setups.query(m, 0, 16, 17);
            due("pattern " + p + " without rows", m, 0, 1, 1);
            checks.due("patternAt(0, 0)", m.patternAt(0, 0), p);
            m.fact(0, 5, 6);
            due("pattern " + p + " with a row", m, 0, 2, 2);
            m.fact(1, 7, 8);
            due("pattern " + p + " with rows of both", m, 1, 2, 2);
        }
    }

    // ASKING: "An atom has for every road a REQUEST"; "If an atom has requests that must be made": if not, failures
    // don't matter.

    private static void noRoadNoRequest() {
        for (int p = 0; p < 4; p++) {
            ViewMediator m = new ViewMediator();
            m.allow(0, 1);
            m.allow(1, 1 << p);
            m.fail(1, 9);
            Setups.rule(m, 0, 0, 16, 17, 1, 16, 17);
            Setups.query(m, 0, 16, 17);
            due("no road to pattern " + p, m, 0, 1, 1);
            failuresDue("no road to pattern " + p, m, 0, 9);
            m.fact(0, 1, 2);
            due("a road to pattern " + p, m, SILENT, 1, 4);
            failuresDue("a road to pattern " + p, m, 0, 6);
            m.fail(1, 2);
            due("a road to pattern " + p, m, 0, 2, 4);
            failuresDue("a road to pattern " + p, m, 0, 0);
        }
    }

    private static void eightRoads() {
        ViewMediator m = withEightRows();
        m.forget(0);
        Setups.rule(m, 0, 0, 16, 17, 1, 17, 18);
        due("eight values", m, 0, 9, 9);
        m.retract(0, 0, 8);
        due("seven values", m, 0, 8, 8);
        m.fact(0, 0, 9);
        due("eight roads, seven values", m, 0, 8, 8);
        m.allow(1, 8);
        m.forget(0);
        Setups.rule(m, 0, 0, 16, 17, 1, 16, 17);
        due("eight pairs", m, 0, 9, 9);
    }

    private static void sixtyFourRoads() {
        ViewMediator m = Setups.open();
        for (int i = 0; i < 8; i++) {
            m.fact(0, i, i);
            m.fact(1, 15 - i, 0);
        }
        m.fact(2, 7, 15);
        Setups.rule(m, 0, 0, 16, 18, 1, 17, 19);
        Setups.rule(m, 1, 2, 16, 17);
        Setups.query(m, 0, 16, 17, 1, 16, 17);
        due("64 pairs", m, 1, 66, 66);
        m.fail(2, 2);
        due("64 pairs and two failures", m, 1, 66, 68);
        m.fail(2, 3);
        due("64 pairs and three failures", m, SILENT, 2, 5);
    }

    private static void allPairsAreAsked() {
        ViewMediator m = Setups.open();
        for (int i = 0; i < 8; i++) {
            m.fact(0, i, i);
            m.fact(1, i + 8, i + 8);
        }
        m.fact(2, 0, 15);
        m.fact(2, 15, 0);
        m.allow(2, 8);
        Setups.rule(m, 0, 0, 16, 17);
        Setups.rule(m, 0, 1, 16, 17);
        Setups.rule(m, 1, 2, 16, 17);
        Setups.query(m, 0, 16, 18, 0, 19, 17, 1, 16, 17);
        due("256 pairs", m, 2, 258, 258);
        checks.due("disjuncts", m.disjuncts(), 4);
    }

    // ASKING: "its relation, its pattern, and the values of the terms that the pattern wants (and of no others)"

    private static void wantedTermsAlone() {
        int[] requests = {1, 2, 4, 8};
        for (int p = 0; p < 4; p++) {
            ViewMediator m = Setups.open();
            m.allow(0, 1);
            m.allow(1, 1 << p);
            // Two first values, four second ones, eight pairs.
            for (int i = 0; i < 8; i++) {
                m.fact(0, i / 4, 8 + i % 4);
            }
            Setups.rule(m, 0, 0, 16, 17, 1, 16, 17);
            Setups.query(m, 0, 16, 17);
            due("pattern " + p, m, 0, 1 + requests[p], 1 + requests[p]);
        }
    }

    // ASKING: "Requests that are the same are one, and a request that was made before in the same run, for whatever
    // atom, is not made again."

    private static void sameRequestsAreOne() {
        ViewMediator m = Setups.open();
        for (int i = 0; i < 8; i++) {
            m.fact(0, 3, i);
        }
        Setups.rule(m, 0, 0, 16, 17, 1, 16, 18);
        Setups.query(m, 0, 16, 17);
        due("eight roads, one value", m, 0, 2, 2);
        m.forget(0);
        Setups.rule(m, 0, 0, 16, 17, 1, 0, 15);
        due("eight roads, one pair of values", m, 0, 2, 2);
    }

    private static void requestsOfOtherRelationsPatternsAndValues() {
        ViewMediator m = new ViewMediator();
        for (int r = 0; r < 4; r++) {
            m.allow(r, 8);
            m.fact(r, 0, 0);
            m.fact(r, 0, 15);
            m.fact(r, 15, 0);
            m.fact(r, 15, 15);
        }
        m.allow(0, 1);
        Setups.rule(m, 0, 0, 16, 17, 1, 16, 17);
        Setups.rule(m, 1, 2, 16, 17, 3, 16, 17);
        Setups.query(m, 0, 16, 17, 1, 16, 17);
        due("four pairs of each of three relations", m, 4, 13, 13);
        for (int r = 1; r < 4; r++) {
            m.allow(r, 1 << r);
        }
        due("other patterns: 1, 2 and 3", m, 4, 9, 9);
        ViewMediator one = new ViewMediator();
        one.fact(0, 0, 0);
        one.allow(0, 15);
        Setups.rule(one, 0, 0, 16, 17);
        Setups.query(one, 0, 0, 16, 0, 17, 0, 0, 0, 0);
        due("0 known as the first, as the second and as both", one, 1, 3, 3);
        checks.due("patterns 1, 2 and 3", Setups.shapes(one), "0(0,16):1 0(17,0):2 0(0,0):3");
    }

    /** Of two disjuncts without rows the first atoms alone are asked: one request if both have the same, else two. */
    private static void anyTwoRequestsAreToldApart() {
        // For a term that is not wanted stands a variable; there the number is the same for all requests.
        int[] terms = {18, 0, 1, 2, 3, 14, 15};
        int kinds = 4 * terms.length * terms.length;
        for (int i = 0; i < kinds; i++) {
            for (int j = 0; j <= i; j++) {
                ViewMediator m = Setups.open();
                beginWith(m, i, terms, 16, 17);
                beginWith(m, j, terms, 17, 16);
                Setups.query(m, 0, 16, 17);
                int requests = i == j ? 1 : 2;
                due("requests " + i + " and " + j, m, 0, requests, requests);
            }
        }
    }

    /** Adds a rule that begins with the atom of a number, made of its relation and two of the terms. */
    private static void beginWith(ViewMediator m, int number, int[] terms, int p, int q) {
        int a = terms[number / terms.length % terms.length];
        int b = terms[number % terms.length];
        Setups.rule(m, 0, number / terms.length / terms.length, a, b == 18 ? 19 : b, 3, p, q);
    }

    private static void requestsMadeBefore() {
        ViewMediator m = Setups.open();
        m.allow(0, 1);
        m.fact(0, 1, 2);
        Setups.rule(m, 0, 0, 16, 17);
        Setups.rule(m, 1, 0, 17, 16);
        Setups.query(m, 0, 16, 18, 1, 18, 19, 0, 19, 17);
        due("one request for three atoms", m, 1, 1, 1);
        checks.due("size(0)", m.size(0), 3);
        Setups.rule(m, 0, 0, 17, 16);
        Setups.query(m, 0, 16, 17);
        due("one request for two disjuncts", m, 2, 1, 1);
        checks.due("disjuncts", m.disjuncts(), 2);
        m.allow(0, 2);
        m.fact(0, 2, 1);
        Setups.query(m, 1, 16, 1, 1, 17, 1);
        due("one request for two atoms with the value 1", m, 1, 1, 1);
        Setups.query(m, 1, 16, 1, 1, 17, 2);
        due("two requests for two atoms with 1 and 2", m, 1, 2, 2);
    }

    private static void requestsOfAnotherRun() {
        ViewMediator m = withEightRows();
        for (int i = 0; i < 4; i++) {
            due("run " + i, m, 8, 1, 1);
        }
        m.fail(0, 4);
        due("silent", m, SILENT, 0, 3);
        due("what SILENT left is made", m, 8, 1, 2);
    }

    // ASKING: "with 3 failures or more of the relation, these become 3 fewer, 3 tries are made, and the run ends as
    // SILENT; otherwise as many tries are made as there are requests to be made and failures together, the failures
    // become 0, and these requests are made."

    private static void twoFailuresAndThree() {
        for (int n = 0; n <= 9; n++) {
            ViewMediator m = withEightRows();
            m.fail(0, n);
            if (n <= 2) {
                due(n + " failures", m, 8, 1, 1 + n);
                failuresDue(n + " failures", m, 0, 0, 0, 0);
            } else {
                due(n + " failures", m, SILENT, 0, 3);
                failuresDue(n + " failures", m, n - 3, 0, 0, 0);
            }
        }
    }

    private static void failuresWithManyRequests() {
        for (int n = 0; n <= 9; n++) {
            ViewMediator m = withEightRows();
            m.forget(0);
            Setups.rule(m, 0, 0, 16, 17, 1, 17, 16);
            m.fail(1, n);
            if (n <= 2) {
                due("eight requests, " + n + " failures", m, 0, 9, 9 + n);
                failuresDue("eight requests", m, 0, 0);
            } else {
                due("eight requests, " + n + " failures", m, SILENT, 1, 4);
                failuresDue("eight requests", m, 0, n - 3);
            }
        }
    }

    private static void failuresBecomeZeroOnce() {
        ViewMediator m = Setups.open();
        Setups.facts(m, 0, 1, 2, 2, 3, 3, 4);
        Setups.rule(m, 0, 0, 16, 17);
        Setups.query(m, 0, 16, 18, 0, 18, 19, 0, 19, 17);
        m.fail(0, 2);
        due("the first atom takes both failures", m, 1, 4, 6);
        due("the next run has none", m, 1, 4, 4);
    }

    private static void failuresOfOthersStay() {
        ViewMediator m = withEightRows();
        m.fail(0, 2);
        m.fail(1, 1);
        m.fail(2, 3);
        m.fail(3, 9);
        due("only relation 0 is asked", m, 8, 1, 3);
        failuresDue("after the run", m, 0, 1, 3, 9);
        m.fail(0, 3);
        due("only relation 0 is asked, and silent", m, SILENT, 0, 3);
        failuresDue("after SILENT", m, 0, 1, 3, 9);
    }

    private static void silentAtTheFirstAtom() {
        ViewMediator m = withEightRows();
        Setups.rule(m, 0, 1, 16, 17);
        m.fail(0, 3);
        m.fail(1, 2);
        due("silent at once", m, SILENT, 0, 3);
        failuresDue("the next disjunct is not asked", m, 0, 2);
        due("not silent", m, 8, 2, 4);
        failuresDue("both are asked", m, 0, 0);
    }

    private static void silentAtTheLastAtom() {
        ViewMediator m = withEightRows();
        m.fact(1, 0, 0);
        m.fact(2, 0, 0);
        Setups.rule(m, 0, 1, 16, 17, 2, 16, 17);
        m.fail(0, 2);
        m.fail(1, 1);
        m.fail(2, 5);
        due("silent at the last atom of the last disjunct", m, SILENT, 2, 8);
        failuresDue("all are asked", m, 0, 0, 2);
        due("not silent", m, 9, 3, 5);
    }

    private static void silentUntilFailuresAreFew() {
        ViewMediator m = withEightRows();
        m.fail(0, 9);
        for (int left = 6; left >= 0; left -= 3) {
            due(left + " failures left", m, SILENT, 0, 3);
            failuresDue(left + " failures left", m, left);
        }
        due("none left", m, 8, 1, 1);
        m.fail(0, 5);
        due("five failures", m, SILENT, 0, 3);
        due("two failures", m, 8, 1, 3);
        due("no failures", m, 8, 1, 1);
    }

    // Promises 18 and 19: "0 without a run."

    private static void nothingWithoutARun() {
        ViewMediator m = Setups.open();
        checks.due("requests", m.requests(), 0);
        checks.due("tries", m.tries(), 0);
        m.fail(0, 9);
        m.fact(0, 1, 2);
        Setups.rule(m, 0, 0, 16, 17);
        m.ask(0, 16, 18);
        due("a run that is BAD", m, ViewMediator.BAD, 0, 0);
        failuresDue("a run that is BAD", m, 9);
    }

    private static void nothingAfterBlocked() {
        ViewMediator m = withEightRows();
        due("a run", m, 8, 1, 1);
        m.allow(0, 14);
        m.fail(0, 9);
        due("a run that is BLOCKED", m, ViewMediator.BLOCKED, 0, 0);
        failuresDue("a run that is BLOCKED", m, 9);
    }

    private static void theSameAfterBad() {
        ViewMediator m = withEightRows();
        m.fail(0, 2);
        due("a run", m, 8, 1, 3);
        m.fail(0, 9);
        m.clear();
        due("a run that is BAD", m, ViewMediator.BAD, 1, 3);
        failuresDue("a run that is BAD", m, 9);
        Standing.changesNothing(checks, "requests()", ViewMediator::requests, 7);
        Standing.changesNothing(checks, "tries()", ViewMediator::tries, 9);
        Standing.changesNothing(checks, "disjuncts()", ViewMediator::disjuncts, 2);
    }
}
