import java.util.Arrays;
import java.util.List;
import java.util.function.Consumer;
import java.util.function.ToIntFunction;

/** The boundary cases of promises 12 and 13, of SAFE and of BAD, BLOCKED and SILENT, each in a test of its own. */
final class RunEdgesTest {
    private static final int BAD = ViewMediator.BAD;
    private static final int BLOCKED = ViewMediator.BLOCKED;
    private static final int SILENT = ViewMediator.SILENT;
    /** Terms that are neither 16 nor 17, those beside them and those with the same low bits among them. */
    private static final int[] OTHERS = {0, 1, 15, 18, 21};
    private static final Checks checks = new Checks();

    public static void main(String[] args) {
        badWithoutAtoms();
        badQueryThatIsNotSafe();
        badRuleThatIsNotSafe();
        badViewWithoutRules();
        badOneOfTwoRules();
        badOnlyByViewsOfTheQuery();
        badChangesNothing();
        badLeavesTheRunBefore();
        badBeforeAnyRun();
        badBeforeBlockedAndSilent();
        blockedByOneOfEight();
        blockedByTheLastOfSixAtoms();
        blockedNotByDropped();
        blockedAsksNothing();
        blockedBeforeSilent();
        blockedAndSilentHaveNoResults();
        runSeesWhatStandsNow();
        latestRunStays();
        noResults();
        mostResults();
        resultsByGrowingPAndQ();
        resultRefuses();
        resultRefusesWithoutRun();
        checks.end();
    }

    /** An object whose views all have one safe rule over relation 0, which holds (1, 1). */
    private static ViewMediator withViews() {
        ViewMediator m = Setups.open();
        m.fact(0, 1, 1);
        for (int v = 0; v < 3; v++) {
            Setups.rule(m, v, 0, 16, 17);
        }
        return m;
    }

    // BAD: "The query has no atoms or is not safe, a view of it has no rules, or a rule of such a view is not safe."

    private static void badWithoutAtoms() {
        ViewMediator m = withViews();
        checks.due("run of no atoms", m.run(), BAD);
        m.ask(0, 16, 17);
        checks.due("run of one atom", m.run(), 1);
        m.clear();
        checks.due("run of no atoms again", m.run(), BAD);
    }

    private static void badQueryThatIsNotSafe() {
        for (int size = 1; size <= 3; size++) {
            safeWithBothAlone("query", size, RunEdgesTest::runOfQuery);
        }
    }

    private static void badRuleThatIsNotSafe() {
        for (int size = 1; size <= 2; size++) {
            safeWithBothAlone("rule", size, RunEdgesTest::runOfRule);
        }
        checks.due("rule without atoms", runOfRule(new int[0]), BAD);
    }

    /** SAFE: "if 16 and 17 both stand in its atoms (in any of them, in any place)". */
    private static void safeWithBothAlone(String what, int size, ToIntFunction<int[]> run) {
        for (int other : OTHERS) {
            badDue(what, run, terms(size, other), true);
            for (int p = 0; p < 2 * size; p++) {
                badDue(what, run, terms(size, other, 16, p), true);
                badDue(what, run, terms(size, other, 17, p), true);
                for (int q = 0; q < 2 * size; q++) {
                    // At the same place 17 takes the place of 16.
                    badDue(what, run, terms(size, other, 16, p, 17, q), p == q);
                }
            }
        }
    }

    private static void badDue(String what, ToIntFunction<int[]> run, int[] terms, boolean bad) {
        checks.due(what + " " + Arrays.toString(terms) + " is BAD", run.applyAsInt(terms) == BAD, bad);
    }

    /** The terms of so many atoms, all the same but for those given after them, each with its place. */
    private static int[] terms(int size, int other, int... placed) {
        int[] terms = new int[2 * size];
        Arrays.fill(terms, other);
        for (int i = 0; i < placed.length; i += 2) {
            terms[placed[i + 1]] = placed[i];
        }
        return terms;
    }

    private static int runOfQuery(int[] terms) {
        ViewMediator m = withViews();
        for (int i = 0; i < terms.length; i += 2) {
            m.ask(0, terms[i], terms[i + 1]);
        }
        return m.run();
    }

    private static int runOfRule(int[] terms) {
        ViewMediator m = withViews();
        m.forget(0);
        m.rule(0);
        for (int i = 0; i < terms.length; i += 2) {
            m.atom(0, 0, terms[i], terms[i + 1]);
        }
        m.ask(0, 16, 17);
        return m.run();
    }

    private static void badViewWithoutRules() {
        for (int v = 0; v < 3; v++) {
            for (int place = 0; place < 3; place++) {
                ViewMediator m = withViews();
                for (int i = 0; i < 3; i++) {
                    m.ask(i == place ? v : (v + 1) % 3, 16, 17);
                }
                checks.due("run with rules everywhere", m.run(), 1);
                m.forget(v);
                checks.due("run without rules of " + v + ", atom " + place, m.run(), BAD);
                Setups.rule(m, v, 0, 16, 17);
                checks.due("run with rules again", m.run(), 1);
            }
        }
    }

    private static void badOneOfTwoRules() {
        for (int place = 0; place < 3; place++) {
            for (int bad = 0; bad < 2; bad++) {
                ViewMediator m = withViews();
                for (int i = 0; i < 3; i++) {
                    m.ask(i == place ? 2 : 0, 16, 17);
                }
                m.forget(2);
                Setups.rule(m, 2, 0, 16, bad == 0 ? 16 : 17);
                Setups.rule(m, 2, 0, bad == 1 ? 17 : 16, 17);
                checks.due("rule " + bad + " of atom " + place + "'s view is not safe", m.run(), BAD);
            }
        }
    }

    private static void badOnlyByViewsOfTheQuery() {
        ViewMediator m = withViews();
        m.ask(1, 16, 17);
        m.forget(0);
        m.forget(2);
        checks.due("other views without rules", m.run(), 1);
        m.rule(0);
        Setups.rule(m, 2, 0, 16, 16);
        checks.due("other views with rules that are not safe", m.run(), 1);
    }

    // Promise 12: "BAD: nothing is changed."

    private static void badChangesNothing() {
        badRunAfter("clear", ViewMediator::clear);
        badRunAfter("a query without 17", m -> Setups.query(m, 0, 16, 18));
        badRunAfter("a query without 16", m -> Setups.query(m, 0, 18, 17, 1, 17, 17));
        badRunAfter("a view without rules", m -> m.ask(2, 16, 17));
        badRunAfter("forget", m -> m.forget(1));
        badRunAfter("a rule without atoms", m -> m.rule(1));
        badRunAfter("a rule without 16", m -> Setups.rule(m, 1, 1, 18, 17));
        badRunAfter("a rule without 17", m -> Setups.rule(m, 1, 1, 18, 16, 0, 16, 16));
    }

    private static void badRunAfter(String what, Consumer<ViewMediator> change) {
        Standing.changesNothing(checks, change, "run after " + what, ViewMediator::run, BAD);
    }

    /** "All that follows is about the latest run that was not BAD". */
    private static void badLeavesTheRunBefore() {
        String due = "0(16,22):0 0(22,18):1 1(18,17):1 | 0(16,18):0 1(18,17):1";
        ViewMediator m = Standing.make();
        m.clear();
        for (int i = 0; i < 3; i++) {
            checks.due("run", m.run(), BAD);
            checks.due("results", Setups.results(m), List.of(13, 14, 29, 31, 46, 47));
            checks.due("disjuncts", Setups.shapes(m), due);
            checks.due("requests", m.requests(), 7);
            checks.due("tries", m.tries(), 9);
        }
        ViewMediator blocked = withViews();
        blocked.allow(0, 0);
        blocked.ask(0, 16, 17);
        checks.due("run", blocked.run(), BLOCKED);
        blocked.clear();
        checks.due("run", blocked.run(), BAD);
        checks.due("disjuncts of BLOCKED, after BAD", Setups.shapes(blocked), "0(16,17):-1");
        ViewMediator silent = withViews();
        silent.fail(0, 3);
        silent.ask(0, 16, 17);
        checks.due("run", silent.run(), SILENT);
        silent.clear();
        checks.due("run", silent.run(), BAD);
        checks.due("disjuncts of SILENT, after BAD", Setups.shapes(silent), "0(16,17):0");
        checks.due("tries of SILENT, after BAD", silent.tries(), 3);
    }

    /** "without such a run as after one of a query without disjuncts" */
    private static void badBeforeAnyRun() {
        ViewMediator m = withViews();
        for (int i = 0; i < 3; i++) {
            checks.due("disjuncts", m.disjuncts(), 0);
            checks.due("result", m.result(0), -1);
            checks.due("size", m.size(0), -1);
            checks.due("atomAt", m.atomAt(0, 0), -1);
            checks.due("patternAt", m.patternAt(0, 0), -1);
            checks.due("requests", m.requests(), 0);
            checks.due("tries", m.tries(), 0);
            m.ask(0, 16, 18);
            checks.due("run", m.run(), BAD);
        }
    }

    /** "(BAD is tested before all else, BLOCKED before anything is asked.)" */
    private static void badBeforeBlockedAndSilent() {
        ViewMediator m = withViews();
        m.fail(0, 9);
        m.ask(0, 16, 17);
        m.ask(1, 16, 17);
        m.rule(1);
        checks.due("bad, and silent if it were asked", m.run(), BAD);
        checks.due("failures", m.failures(0), 9);
        m.allow(0, 0);
        checks.due("bad, and blocked if it were not", m.run(), BAD);
        checks.due("disjuncts", m.disjuncts(), 0);
        m.atom(1, 0, 16, 17);
        checks.due("blocked, not bad", m.run(), BLOCKED);
        checks.due("failures", m.failures(0), 9);
        m.allow(0, 1);
        checks.due("silent, not blocked", m.run(), SILENT);
        checks.due("failures", m.failures(0), 6);
    }

    // BLOCKED: "A disjunct that is left is blocked."

    /** In the disjunct that takes relation 1 for all three query atoms there is none that could be asked first. */
    private static void blockedByOneOfEight() {
        for (int blocked = 0; blocked < 8; blocked++) {
            ViewMediator m = new ViewMediator();
            m.allow(0, 1);
            m.allow(1, 2);
            for (int v = 0; v < 3; v++) {
                int number = blocked >> (2 - v) & 1;
                Setups.rule(m, v, 1 - number, 16, 17);
                Setups.rule(m, v, number, 16, 17);
            }
            Setups.query(m, 0, 16, 17, 1, 17, 18, 2, 18, 16);
            checks.due("disjunct " + blocked + " is blocked", m.run(), BLOCKED);
            checks.due("disjuncts", m.disjuncts(), 8);
            for (int d = 0; d < 8; d++) {
                checks.due("first pattern of " + d, m.patternAt(d, 0), d == blocked ? -1 : 0);
            }
            m.allow(1, 3);
            checks.due("none is blocked", m.run(), 0);
        }
    }

    private static void blockedByTheLastOfSixAtoms() {
        ViewMediator m = new ViewMediator();
        m.allow(0, 1);
        m.allow(1, 1);
        m.allow(2, 1);
        Setups.rule(m, 0, 0, 16, 18, 1, 18, 17);
        Setups.rule(m, 1, 2, 16, 17, 3, 18, 19);
        Setups.query(m, 0, 16, 18, 0, 18, 17, 1, 17, 16);
        checks.due("the last has no pattern", m.run(), BLOCKED);
        checks.due("five are in order", Setups.shapes(m),
                "0(16,22):0 1(22,18):0 0(18,26):0 1(26,17):0 2(17,16):0 3(30,31):-1");
        m.allow(3, 14);
        checks.due("the last can't be asked with those it has", m.run(), BLOCKED);
        m.allow(3, 1);
        checks.due("the last can be asked", m.run(), 0);
    }

    private static void blockedNotByDropped() {
        for (int kept = 0; kept < 2; kept++) {
            ViewMediator m = new ViewMediator();
            m.allow(0, 1);
            m.fact(0, 4, 5);
            for (int i = 0; i < 2; i++) {
                m.rule(0);
                m.atom(0, 0, 16, 17);
                if (i != kept) {
                    m.atom(0, 1, 16, 17);
                }
            }
            Setups.query(m, 0, 16, 17);
            checks.due("the blocked disjunct is dropped", m.run(), 1);
            checks.due("shapes", Setups.shapes(m), "0(16,17):0");
        }
    }

    /** "BLOCKED: nothing is asked." */
    private static void blockedAsksNothing() {
        ViewMediator m = withViews();
        m.ask(0, 16, 17);
        m.fail(0, 2);
        checks.due("run", m.run(), 1);
        checks.due("requests", m.requests(), 1);
        checks.due("tries", m.tries(), 3);
        Setups.rule(m, 0, 1, 16, 17);
        m.allow(1, 14);
        for (int n = 0; n <= 9; n++) {
            m.fail(0, n);
            checks.due("run", m.run(), BLOCKED);
            checks.due("failures", m.failures(0), n);
            checks.due("requests", m.requests(), 0);
            checks.due("tries", m.tries(), 0);
        }
    }

    private static void blockedBeforeSilent() {
        ViewMediator m = withViews();
        Setups.rule(m, 0, 1, 16, 17);
        m.ask(0, 16, 17);
        m.fail(0, 3);
        m.allow(1, 0);
        checks.due("first disjunct silent, second blocked", m.run(), BLOCKED);
        checks.due("failures", m.failures(0), 3);
        m.allow(1, 1);
        checks.due("first disjunct silent", m.run(), SILENT);
        checks.due("failures", m.failures(0), 0);
        checks.due("none of both", m.run(), 1);
    }

    /** "After BLOCKED and SILENT there are no results." */
    private static void blockedAndSilentHaveNoResults() {
        ViewMediator m = withViews();
        Setups.rule(m, 0, 1, 16, 17);
        m.ask(0, 16, 17);
        checks.due("run", m.run(), 1);
        checks.due("result(0)", m.result(0), 17);
        m.fail(1, 3);
        checks.due("silent in the last disjunct", m.run(), SILENT);
        checks.due("result(0) after SILENT", m.result(0), -1);
        checks.due("disjuncts after SILENT", m.disjuncts(), 2);
        checks.due("run", m.run(), 1);
        checks.due("result(0)", m.result(0), 17);
        m.allow(1, 0);
        checks.due("last disjunct blocked", m.run(), BLOCKED);
        checks.due("result(0) after BLOCKED", m.result(0), -1);
        checks.due("disjuncts after BLOCKED", m.disjuncts(), 2);
    }

    /** "Runs the query on the rows, patterns, failures, rules as they are" */
    private static void runSeesWhatStandsNow() {
        ViewMediator m = withViews();
        m.ask(0, 16, 17);
        checks.due("run", m.run(), 1);
        m.fact(0, 0, 15);
        checks.due("a row more", m.run(), 2);
        m.retract(0, 1, 1);
        checks.due("a row less", m.run(), 1);
        checks.due("result(0)", m.result(0), 15);
        m.retract(0, 0, 15);
        checks.due("no row", m.run(), 0);
        m.allow(0, 0);
        checks.due("no pattern", m.run(), BLOCKED);
        m.allow(0, 1);
        m.fail(0, 3);
        checks.due("failures", m.run(), SILENT);
        m.forget(0);
        checks.due("no rule", m.run(), BAD);
        Setups.rule(m, 0, 0, 17, 16);
        m.fact(0, 0, 15);
        checks.due("another rule", m.run(), 1);
        checks.due("result(0)", m.result(0), 240);
    }

    /** "whatever has become of rows and rules since" */
    private static void latestRunStays() {
        ViewMediator m = Standing.make();
        for (int r = 0; r < 4; r++) {
            m.allow(r, 0);
            m.fail(r, 9);
        }
        m.retract(0, 0, 1);
        m.retract(0, 1, 2);
        m.fact(3, 0, 13);
        m.forget(0);
        m.forget(1);
        Setups.rule(m, 0, 3, 16, 17);
        m.clear();
        m.ask(0, 17, 16);
        checks.due("results", Setups.results(m), List.of(13, 14, 29, 31, 46, 47));
        checks.due("disjuncts", Setups.shapes(m), "0(16,22):0 0(22,18):1 1(18,17):1 | 0(16,18):0 1(18,17):1");
        checks.due("requests", m.requests(), 7);
        checks.due("tries", m.tries(), 9);
    }

    private static void noResults() {
        ViewMediator m = withViews();
        m.ask(0, 16, 17);
        m.ask(1, 2, 2);
        checks.due("a row that is not there", m.run(), 0);
        checks.due("result(0)", m.result(0), -1);
        m.retract(0, 1, 1);
        checks.due("no rows at all", m.run(), 0);
        checks.due("result(0)", m.result(0), -1);
    }

    /** All 256 pairs are results: two rules give all first values, two rules of another view all second ones. */
    private static ViewMediator withAllPairs() {
        ViewMediator m = Setups.open();
        for (int i = 7; i >= 0; i--) {
            m.fact(0, i, 3);
            m.fact(1, i + 8, 3);
            m.fact(2, 3, i);
            m.fact(3, 3, i + 8);
        }
        Setups.rule(m, 0, 1, 16, 17);
        Setups.rule(m, 0, 0, 16, 17);
        Setups.rule(m, 1, 3, 16, 17);
        Setups.rule(m, 1, 2, 16, 17);
        Setups.query(m, 0, 16, 18, 1, 19, 17);
        return m;
    }

    // Promise 13: "The i-th result, counted from 0, by growing p and, where p is the same, growing q: 16 * p + q; -1
    // when there is none."

    private static void mostResults() {
        ViewMediator m = withAllPairs();
        checks.due("run", m.run(), 256);
        for (int i = 0; i < 256; i++) {
            checks.due("result(" + i + ")", m.result(i), i);
        }
        for (int i : Outside.of(255)) {
            checks.due("result(" + i + ")", m.result(i), -1);
        }
        m.retract(2, 3, 0);
        checks.due("run with 0 for no second value", m.run(), 240);
        checks.due("result(0)", m.result(0), 1);
        checks.due("result(239)", m.result(239), 255);
        checks.due("result(240)", m.result(240), -1);
        checks.due("result(255)", m.result(255), -1);
    }

    private static void resultsByGrowingPAndQ() {
        ViewMediator m = Setups.open();
        Setups.facts(m, 0, 15, 15, 15, 0, 0, 15, 0, 0, 1, 0, 0, 1, 14, 15, 15, 14);
        Setups.rule(m, 0, 0, 16, 17);
        Setups.query(m, 0, 16, 17);
        checks.due("run", m.run(), 8);
        checks.due("results", Setups.results(m), List.of(0, 1, 15, 16, 239, 240, 254, 255));
        Setups.query(m, 0, 17, 16);
        checks.due("run, turned", m.run(), 8);
        checks.due("results, turned", Setups.results(m), List.of(0, 1, 15, 16, 239, 240, 254, 255));
        Setups.query(m, 0, 16, 17, 0, 1, 17);
        checks.due("run, 17 is 0", m.run(), 3);
        checks.due("results, 17 is 0", Setups.results(m), List.of(0, 16, 240));
    }

    private static void resultRefuses() {
        for (int i : Outside.of(5)) {
            Standing.changesNothing(checks, "result(" + i + ")", m -> m.result(i), -1);
        }
        Standing.changesNothing(checks, "result(0)", m -> m.result(0), 13);
        Standing.changesNothing(checks, "result(5)", m -> m.result(5), 47);
        ViewMediator m = withViews();
        m.ask(0, 16, 17);
        m.run();
        checks.due("result(0) of one", m.result(0), 17);
        for (int i : Outside.of(0)) {
            checks.due("result(" + i + ") of one", m.result(i), -1);
        }
    }

    private static void resultRefusesWithoutRun() {
        ViewMediator m = new ViewMediator();
        checks.due("result(0)", m.result(0), -1);
        for (int i : Outside.of(255)) {
            checks.due("result(" + i + ")", m.result(i), -1);
        }
    }
}
