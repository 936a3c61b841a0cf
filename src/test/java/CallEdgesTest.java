import java.util.function.BiFunction;
import java.util.function.Consumer;
import java.util.function.Function;

/** "An object is used for at most 512 calls after it has been made; what later calls answer is free." */
final class CallEdgesTest {
    private static final int MOST = 512;
    private static final Checks checks = new Checks();

    public static void main(String[] args) {
        lastCallIsAnswered();
        callsBeforeTheLastCount();
        clearBeforeTheLastCounts();
        allCallsAreTheSame();
        allCallsButTheLastAreRefused();
        allCallsAreRuns();
        allCallsAreRefused();
        allCallsAreChanges();
        laterCallsEnd();
        checks.end();
    }

    /** Makes an object, with so many calls that just one is left to the limit. */
    private static ViewMediator withOneCallLeft(Consumer<ViewMediator> filling, int callsOfFilling) {
        ViewMediator m = Standing.make();
        int calls = Standing.CALLS;
        for (; calls + callsOfFilling < MOST; calls += callsOfFilling) {
            filling.accept(m);
        }
        for (; calls + 1 < MOST; calls++) {
            m.disjuncts();
        }
        return m;
    }

    /** A call, as the 512th one after each of several kinds of calls, has the answer that is due. */
    private static void lastDue(String call, Function<ViewMediator, Object> made, Object want) {
        checks.due("512th: " + call, made.apply(withOneCallLeft(m -> m.result(0), 1)), want);
        checks.due("512th after refused ones: " + call, made.apply(withOneCallLeft(m -> m.fact(4, 0, 0), 1)), want);
        checks.due("512th after changes: " + call, made.apply(withOneCallLeft(m -> {
            m.fact(3, 0, 0);
            m.retract(3, 0, 0);
            m.rule(2);
            m.atom(2, 3, 16, 17);
            m.forget(2);
            m.fail(2, 9);
            m.fail(2, 0);
            m.allow(3, 15);
            m.allow(3, 0);
        }, 9)), want);
    }

    private static void lastCallIsAnswered() {
        lastDue("fact", m -> m.fact(3, 15, 15), true);
        lastDue("fact refused", m -> m.fact(1, 7, 7), false);
        lastDue("retract", m -> m.retract(2, 5, 5), true);
        lastDue("allow", m -> m.allow(3, 15), true);
        lastDue("fail", m -> m.fail(3, 9), true);
        lastDue("failures", m -> m.failures(3), 9);
        lastDue("rule", m -> m.rule(1), 1);
        lastDue("atom", m -> m.atom(0, 3, 21, 21), true);
        lastDue("forget", m -> m.forget(0), 2);
        lastDue("ask", m -> m.ask(2, 21, 21), true);
        lastDue("run", ViewMediator::run, 5);
        lastDue("result", m -> m.result(5), 47);
        lastDue("disjuncts", ViewMediator::disjuncts, 2);
        lastDue("size", m -> m.size(0), 3);
        lastDue("atomAt", m -> m.atomAt(0, 2), (64 + 18) * 64 + 17);
        lastDue("patternAt", m -> m.patternAt(0, 2), 1);
        lastDue("requests", ViewMediator::requests, 7);
        lastDue("tries", ViewMediator::tries, 9);
    }

    private static void callsBeforeTheLastCount() {
        ViewMediator m = Setups.open();
        Setups.rule(m, 0, 0, 16, 17);
        Setups.query(m, 0, 16, 17);
        for (int calls = 4 + 2 + 2; calls < MOST - 3; calls++) {
            checks.due("fact or retract", calls % 2 == 0 ? m.fact(0, 15, 15) : m.retract(0, 15, 15), true);
        }
        checks.due("510th: fact", m.fact(0, 0, 1), true);
        checks.due("511th: run", m.run(), 2);
        checks.due("512th: result", m.result(1), 255);
    }

    private static void clearBeforeTheLastCounts() {
        ViewMediator m = Standing.make();
        for (int calls = Standing.CALLS; calls < MOST - 2; calls++) {
            m.failures(0);
        }
        m.clear();
        checks.due("512th: run after clear", m.run(), ViewMediator.BAD);
    }

    private static void allCallsAreTheSame() {
        sameDue("fact", m -> m.fact(0, 15, 15), true, false);
        sameDue("retract", m -> m.retract(0, 15, 15), false);
        sameDue("allow", m -> m.allow(3, 15), true);
        sameDue("fail", m -> m.fail(3, 9), true);
        sameDue("failures", m -> m.failures(3), 0);
        sameDue("rule", m -> m.rule(2), 0, 1, -1);
        sameDue("atom", m -> m.atom(2, 3, 16, 17), false);
        sameDue("forget", m -> m.forget(2), 0);
        sameDue("ask", m -> m.ask(2, 16, 17), true, true, true, false);
        sameDue("run", ViewMediator::run, ViewMediator.BAD);
        sameDue("result", m -> m.result(0), -1);
        sameDue("disjuncts", ViewMediator::disjuncts, 0);
        sameDue("size", m -> m.size(0), -1);
        sameDue("atomAt", m -> m.atomAt(0, 0), -1);
        sameDue("patternAt", m -> m.patternAt(0, 0), -1);
        sameDue("requests", ViewMediator::requests, 0);
        sameDue("tries", ViewMediator::tries, 0);
    }

    /** A call, 512 times on a new object: the answers that are due, the last of which is due from then on. */
    private static void sameDue(String call, Function<ViewMediator, Object> made, Object... wants) {
        ViewMediator m = new ViewMediator();
        for (int calls = 0; calls < MOST; calls++) {
            checks.due(call + " " + calls, made.apply(m), wants[Math.min(calls, wants.length - 1)]);
        }
    }

    private static void allCallsButTheLastAreRefused() {
        lastTaken("fact", (m, relation) -> m.fact(relation, 15, 15), false, true);
        lastTaken("allow", (m, relation) -> m.allow(relation, 15), false, true);
        lastTaken("fail", (m, relation) -> m.fail(relation, 9), false, true);
        lastTaken("failures", (m, relation) -> m.failures(relation), -1, 0);
        lastTaken("rule", (m, view) -> m.rule(view), -1, 0);
        lastTaken("forget", (m, view) -> m.forget(view), -1, 0);
        lastTaken("ask", (m, view) -> m.ask(view, 16, 17), false, true);
    }

    /** A call with 4, which is neither a relation nor a view, 511 times on a new object, and then with 2. */
    private static void lastTaken(String call, BiFunction<ViewMediator, Integer, Object> made, Object refused,
            Object taken) {
        ViewMediator m = new ViewMediator();
        for (int calls = 0; calls < MOST - 1; calls++) {
            checks.due(call + " with 4", made.apply(m, 4), refused);
        }
        checks.due("512th: " + call + " with 2", made.apply(m, 2), taken);
    }

    private static void allCallsAreRuns() {
        ViewMediator m = Setups.open();
        for (int i = 0; i < 8; i++) {
            m.fact(0, i, i + 1);
        }
        Setups.rule(m, 0, 0, 16, 17);
        Setups.rule(m, 0, 0, 17, 16);
        Setups.query(m, 0, 16, 18, 0, 18, 19, 0, 19, 17);
        int first = m.run();
        int calls = 4 + 8 + 4 + 4 + 1;
        checks.due("pairs one or three steps apart", first, 28);
        for (; calls < MOST; calls++) {
            checks.due("run", m.run(), first);
        }
    }

    private static void allCallsAreRefused() {
        ViewMediator m = new ViewMediator();
        for (int calls = 0; calls + 8 < MOST; calls += 8) {
            checks.due("retract", m.retract(0, 0, 0), false);
            checks.due("atom", m.atom(0, 0, 16, 17), false);
            checks.due("ask", m.ask(0, 22, 0), false);
            checks.due("rule", m.rule(3), -1);
            checks.due("run", m.run(), ViewMediator.BAD);
            checks.due("result", m.result(0), -1);
            checks.due("size", m.size(0), -1);
            checks.due("disjuncts", m.disjuncts(), 0);
        }
        checks.due("first fact", m.fact(0, 0, 0), true);
    }

    private static void allCallsAreChanges() {
        ViewMediator m = new ViewMediator();
        for (int calls = 0; calls + 8 <= MOST; calls += 8) {
            checks.due("rule", m.rule(0), 0);
            checks.due("atom", m.atom(0, 0, 16, 17), true);
            checks.due("rule", m.rule(0), 1);
            checks.due("atom", m.atom(0, 0, 17, 16), true);
            checks.due("ask", m.ask(0, 16, 17), true);
            checks.due("run", m.run(), ViewMediator.BLOCKED);
            m.clear();
            checks.due("forget", m.forget(0), 2);
        }
    }

    /** What they answer is free, but none may throw or fail to end (LANGUAGE.md, rule 7). */
    private static void laterCallsEnd() {
        ViewMediator m = withOneCallLeft(ViewMediator::run, 1);
        int[] numbers = {0, 1, 2, 3, 16, 17, 18, -1, 8, 9, 22, Integer.MIN_VALUE, Integer.MAX_VALUE};
        for (int i = 0; i < 5000; i++) {
            int a = numbers[i % 13];
            int b = numbers[i / 13 % 13];
            int c = numbers[(i / 7 + i) % 13];
            m.fact(a, b, c);
            m.retract(b, c, a);
            m.allow(a, b);
            m.fail(a, b);
            m.failures(a);
            m.rule(a);
            m.atom(a, b, c, 16);
            m.ask(a, b, c);
            m.run();
            m.result(a);
            m.disjuncts();
            m.size(a);
            m.atomAt(a, b);
            m.patternAt(a, b);
            m.requests();
            m.tries();
            if (i % 5 == 0) {
                m.forget(a);
                m.clear();
            }
            if (i % 50 == 0) {
                m.forget(0);
                Setups.rule(m, 0, 0, 16, 17);
                Setups.query(m, 0, 16, 17, 0, 16, 18);
                m.run();
            }
        }
    }
}
