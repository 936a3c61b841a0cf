import java.util.List;

/** The boundary cases of promises 1 to 6, each sentence or part of a sentence in a test of its own. */
final class RelationEdgesTest {
    private static final int[] NO_RELATION = Outside.of(3);
    private static final int[] NO_VALUE = Outside.of(15);
    private static final int[] NO_PATTERNS = Outside.of(15);
    private static final int[] NO_FAILURES = Outside.of(9);
    private static final Checks checks = new Checks();

    public static void main(String[] args) {
        standing();
        newHasNoRows();
        newHasNoPatterns();
        newHasNoFailures();
        newHasNoRules();
        newHasAnEmptyQuery();
        newHasNoRun();
        factTakesAllThatIsInRange();
        factRefusesRelations();
        factRefusesValues();
        factRefusesRowsThatAreThere();
        factRefusesTheNinthRow();
        factCountsRowsOfOneRelation();
        retractTakesOutDownToNone();
        retractRefusesRowsThatAreNotThere();
        retractRefusesNumbers();
        allowTakesAllPatterns();
        allowTakesNoneAndAll();
        allowRefusesRelations();
        allowRefusesPatterns();
        failTakesZeroToNine();
        failRefusesRelations();
        failRefusesNumbers();
        failuresOfEveryRelation();
        failuresRefusesRelations();
        checks.end();
    }

    private static void standing() {
        checks.due("what stands", Standing.text(m -> { }), Standing.DUE);
    }

    // Promise 1: "No rows, patterns, failures, rules; an empty query; no run."

    private static void newHasNoRows() {
        for (int r = 0; r < 4; r++) {
            ViewMediator m = new ViewMediator();
            for (int x = 0; x < 16; x++) {
                for (int y = 0; y < 16; y++) {
                    checks.due("new: retract(" + r + ", " + x + ", " + y + ")", m.retract(r, x, y), false);
                }
            }
            checks.due("new: rows of " + r, Setups.rows(m, r), List.of());
        }
    }

    private static void newHasNoPatterns() {
        for (int r = 0; r < 4; r++) {
            ViewMediator m = new ViewMediator();
            Setups.rule(m, 0, r, 5, 6, r, 16, 17);
            Setups.query(m, 0, 16, 17);
            checks.due("new: no pattern of " + r, m.run(), ViewMediator.BLOCKED);
            checks.due("new: not even with values", Setups.shapes(m), r + "(5,6):-1 " + r + "(16,17):-1");
        }
    }

    private static void newHasNoFailures() {
        for (int r = 0; r < 4; r++) {
            ViewMediator m = new ViewMediator();
            checks.due("new: failures(" + r + ")", m.failures(r), 0);
            Setups.rows(m, r);
            checks.due("new: tries of " + r, m.tries(), 1);
        }
    }

    private static void newHasNoRules() {
        for (int v = 0; v < 3; v++) {
            ViewMediator m = Setups.open();
            checks.due("new: atom of " + v, m.atom(v, 0, 16, 17), false);
            checks.due("new: forget(" + v + ")", m.forget(v), 0);
            Setups.query(m, v, 16, 17);
            checks.due("new: run of " + v, m.run(), ViewMediator.BAD);
            checks.due("new: first rule of " + v, m.rule(v), 0);
        }
    }

    private static void newHasAnEmptyQuery() {
        ViewMediator m = Setups.open();
        Setups.rule(m, 0, 0, 16, 17);
        checks.due("new: run", m.run(), ViewMediator.BAD);
        for (int i = 0; i < 3; i++) {
            checks.due("new: ask " + i, m.ask(0, 16, 17), true);
        }
        checks.due("new: ask 3", m.ask(0, 16, 17), false);
    }

    private static void newHasNoRun() {
        ViewMediator m = new ViewMediator();
        checks.due("new: disjuncts", m.disjuncts(), 0);
        checks.due("new: requests", m.requests(), 0);
        checks.due("new: tries", m.tries(), 0);
        checks.due("new: result(0)", m.result(0), -1);
        checks.due("new: size(0)", m.size(0), -1);
        checks.due("new: atomAt(0, 0)", m.atomAt(0, 0), -1);
        checks.due("new: patternAt(0, 0)", m.patternAt(0, 0), -1);
    }

    // Promise 2: "true; false, changing nothing, when relation, x or y is out of range, the row is there, or 8 are
    // there."

    private static void factTakesAllThatIsInRange() {
        for (int i = 0; i < 4 * 256; i++) {
            int r = i / 256;
            int pair = i % 256;
            ViewMediator m = new ViewMediator();
            checks.due("fact(" + r + ", .., ..) of " + pair, m.fact(r, pair / 16, pair % 16), true);
            checks.due("rows of " + r, Setups.rows(m, r), List.of(pair));
        }
    }

    private static void factRefusesRelations() {
        for (int r : NO_RELATION) {
            Standing.changesNothing(checks, "fact(" + r + ", 9, 9)", m -> m.fact(r, 9, 9), false);
        }
    }

    private static void factRefusesValues() {
        for (int value : NO_VALUE) {
            Standing.changesNothing(checks, "fact(0, " + value + ", 9)", m -> m.fact(0, value, 9), false);
            Standing.changesNothing(checks, "fact(3, 9, " + value + ")", m -> m.fact(3, 9, value), false);
            Standing.changesNothing(checks, "fact(2, both " + value + ")", m -> m.fact(2, value, value), false);
        }
    }

    private static void factRefusesRowsThatAreThere() {
        Standing.changesNothing(checks, "fact of the first row", m -> m.fact(0, 0, 1), false);
        Standing.changesNothing(checks, "fact of the last row", m -> m.fact(0, 2, 3), false);
        Standing.changesNothing(checks, "fact of the only row", m -> m.fact(2, 5, 5), false);
        Standing.changesNothing(checks, "fact of a row of a full relation", m -> m.fact(1, 15, 0), false);
    }

    private static void factRefusesTheNinthRow() {
        for (int r = 0; r < 4; r++) {
            ViewMediator m = new ViewMediator();
            for (int i = 1; i <= 8; i++) {
                checks.due("fact " + i + " of " + r, m.fact(r, 0, i), true);
            }
            checks.due("fact 9 of " + r, m.fact(r, 0, 9), false);
            checks.due("fact 10 of " + r, m.fact(r, 15, 15), false);
            checks.due("a row out", m.retract(r, 0, 1), true);
            checks.due("fact 8 again of " + r, m.fact(r, 0, 9), true);
            checks.due("fact 9 again of " + r, m.fact(r, 0, 1), false);
            checks.due("rows of " + r, Setups.rows(m, r), List.of(2, 3, 4, 5, 6, 7, 8, 9));
        }
        Standing.changesNothing(checks, "ninth fact", m -> m.fact(1, 7, 7), false);
        Standing.changesNothing(checks, "ninth fact, row of another relation", m -> m.fact(1, 5, 5), false);
        Standing.changesNothing(checks, "ninth fact, out of range", m -> m.fact(1, 16, 16), false);
    }

    private static void factCountsRowsOfOneRelation() {
        ViewMediator m = new ViewMediator();
        for (int i = 0; i < 32; i++) {
            checks.due("eight rows in each of four relations", m.fact(i % 4, i / 4, i / 4), true);
        }
        for (int r = 0; r < 4; r++) {
            checks.due("ninth of " + r, m.fact(r, 15, 15), false);
            checks.due("rows of " + r, Setups.rows(m, r), List.of(0, 17, 34, 51, 68, 85, 102, 119));
        }
    }

    // Promise 3: "true; false when it is not there (or a number is out of range)."

    private static void retractTakesOutDownToNone() {
        for (int first = 0; first < 8; first++) {
            ViewMediator m = new ViewMediator();
            for (int i = 0; i < 8; i++) {
                m.fact(3, i, 15);
            }
            for (int i = 0; i < 8; i++) {
                int x = (first + 3 * i) % 8;
                checks.due("retract(3, " + x + ", 15)", m.retract(3, x, 15), true);
                checks.due("retract(3, " + x + ", 15) again", m.retract(3, x, 15), false);
                checks.due("rows left", Setups.rows(m, 3).size(), 7 - i);
            }
            checks.due("retract of none", m.retract(3, 0, 15), false);
            for (int i = 0; i < 8; i++) {
                checks.due("fact after all were taken out", m.fact(3, 15, i), true);
            }
            checks.due("ninth fact", m.fact(3, 15, 8), false);
        }
    }

    private static void retractRefusesRowsThatAreNotThere() {
        Standing.changesNothing(checks, "retract, turned", m -> m.retract(0, 1, 0), false);
        Standing.changesNothing(checks, "retract, second beside it", m -> m.retract(0, 0, 2), false);
        Standing.changesNothing(checks, "retract, first beside it", m -> m.retract(0, 1, 1), false);
        Standing.changesNothing(checks, "retract, row of another relation", m -> m.retract(0, 5, 5), false);
        Standing.changesNothing(checks, "retract, row that was taken out", m -> m.retract(0, 2, 0), false);
        Standing.changesNothing(checks, "retract from an empty relation", m -> m.retract(3, 0, 0), false);
        Standing.changesNothing(checks, "retract from a full relation", m -> m.retract(1, 0, 0), false);
    }

    private static void retractRefusesNumbers() {
        for (int r : NO_RELATION) {
            Standing.changesNothing(checks, "retract(" + r + ", 0, 1)", m -> m.retract(r, 0, 1), false);
        }
        for (int value : NO_VALUE) {
            Standing.changesNothing(checks, "retract(1, " + value + ", 0)", m -> m.retract(1, value, 0), false);
            Standing.changesNothing(checks, "retract(1, 0, " + value + ")", m -> m.retract(1, 0, value), false);
            Standing.changesNothing(checks, "retract(1, 15, " + value + ")", m -> m.retract(1, 15, value), false);
            Standing.changesNothing(checks, "retract(2, both " + value + ")", m -> m.retract(2, value, value), false);
        }
    }

    // Promise 4: "true; false, changing nothing, when relation is not 0 .. 3 or patterns not 0 .. 15."

    private static void allowTakesAllPatterns() {
        for (int r = 0; r < 4; r++) {
            for (int patterns = 0; patterns < 16; patterns++) {
                ViewMediator m = new ViewMediator();
                checks.due("allow(" + r + ", " + patterns + ")", m.allow(r, patterns), true);
                for (int known = 0; known < 4; known++) {
                    int want = (patterns & 1 << known) != 0 ? known : -2;
                    checks.due("allow(" + r + ", " + patterns + "): pattern " + known, usable(m, r, known), want);
                }
            }
        }
    }

    /** The pattern number itself if the relation has it, else -2: with just its terms known it is the greatest one. */
    private static int usable(ViewMediator m, int relation, int pattern) {
        int helper = (relation + 1) % 4;
        m.allow(helper, 1);
        m.forget(2);
        Setups.rule(m, 2, helper, 16, 17, relation, (pattern & 1) != 0 ? 16 : 18, (pattern & 2) != 0 ? 17 : 19);
        Setups.query(m, 2, 16, 17);
        m.run();
        int last = m.patternAt(0, m.atomAt(0, 0) / 4096 == relation ? 0 : 1);
        return last == pattern ? pattern : -2;
    }

    private static void allowTakesNoneAndAll() {
        ViewMediator m = new ViewMediator();
        m.allow(0, 15);
        Setups.rule(m, 0, 0, 16, 17);
        Setups.query(m, 0, 16, 17);
        checks.due("all patterns", m.run(), 0);
        checks.due("allow(0, 0)", m.allow(0, 0), true);
        checks.due("no patterns", m.run(), ViewMediator.BLOCKED);
        checks.due("allow(0, 14)", m.allow(0, 14), true);
        checks.due("all but pattern 0", m.run(), ViewMediator.BLOCKED);
        checks.due("allow(0, 1)", m.allow(0, 1), true);
        checks.due("pattern 0", m.run(), 0);
    }

    private static void allowRefusesRelations() {
        for (int r : NO_RELATION) {
            Standing.changesNothing(checks, "allow(" + r + ", 0)", m -> m.allow(r, 0), false);
            Standing.changesNothing(checks, "allow(" + r + ", 15)", m -> m.allow(r, 15), false);
        }
    }

    private static void allowRefusesPatterns() {
        for (int patterns : NO_PATTERNS) {
            for (int i = 0; i < 4; i++) {
                int r = i;
                Standing.changesNothing(checks, "allow(" + r + ", " + patterns + ")", m -> m.allow(r, patterns), false);
            }
        }
    }

    // Promise 5: "true; false, changing nothing, when relation is not 0 .. 3 or n not 0 .. 9."

    private static void failTakesZeroToNine() {
        ViewMediator m = new ViewMediator();
        for (int r = 0; r < 4; r++) {
            for (int n = 9; n >= 0; n--) {
                checks.due("fail(" + r + ", " + n + ")", m.fail(r, n), true);
                checks.due("failures(" + r + ")", m.failures(r), n);
            }
            checks.due("fail(" + r + ", 9)", m.fail(r, 9), true);
            checks.due("failures(" + r + ")", m.failures(r), 9);
        }
    }

    private static void failRefusesRelations() {
        for (int r : NO_RELATION) {
            Standing.changesNothing(checks, "fail(" + r + ", 0)", m -> m.fail(r, 0), false);
            Standing.changesNothing(checks, "fail(" + r + ", 9)", m -> m.fail(r, 9), false);
        }
    }

    private static void failRefusesNumbers() {
        for (int n : NO_FAILURES) {
            for (int i = 0; i < 4; i++) {
                int r = i;
                Standing.changesNothing(checks, "fail(" + r + ", " + n + ")", m -> m.fail(r, n), false);
            }
        }
    }

    // Promise 6: "The failures of a relation; -1 when relation is not 0 .. 3."

    private static void failuresOfEveryRelation() {
        int[] due = {1, 2, 0, 9};
        for (int i = 0; i < 4; i++) {
            int r = i;
            Standing.changesNothing(checks, "failures(" + r + ")", m -> m.failures(r), due[r]);
        }
    }

    private static void failuresRefusesRelations() {
        for (int r : NO_RELATION) {
            Standing.changesNothing(checks, "failures(" + r + ")", m -> m.failures(r), -1);
        }
    }
}
