import java.util.function.Consumer;
import java.util.function.Function;

/**
 * A mediator in which something stands everywhere, and a text of all that later calls can tell about it. A call that
 * changes nothing leaves this text as it is. Every part of the text comes from an object of its own, for looking closer
 * changes what is looked at.
 */
final class Standing {
    static final String DUE = """
            run: 0(16,22):0 0(22,18):1 1(18,17):1 | 0(16,18):0 1(18,17):1
            results: [13, 14, 29, 31, 46, 47] requests 7 tries 9
            failures: 1 2 0 9
            run again, 5: 0(16,22):0 0(22,18):0 1(18,17):1 | 0(16,18):0 1(18,17):1
            results: [13, 14, 28, 29, 44] requests 4 tries 7
            failures: 0 0 0 9
            relation 0: [1, 18, 35] room 5 patterns 0 2
            relation 1: [15, 30, 45, 60, 195, 210, 225, 240] room 0 patterns 1 2 3
            relation 2: [85] room 7 patterns 2
            relation 3: [] room 8 patterns
            view 0: rules 2 room 0, of the latest 1: 0(16,22):0 0(22,17):0 | 0(16,17):0
            view 1: rules 1 room 1, of the latest 1: 1(16,17):-1
            view 2: rules 0 room 2, of the latest 0: BAD
            query: room 1
            """;

    /** How many calls it takes to make it. */
    static final int CALLS = 33;

    private Standing() {
    }

    /** After its run the rows, patterns and failures become others, so that the run and what stands now differ. */
    static ViewMediator make() {
        ViewMediator m = new ViewMediator();
        Setups.facts(m, 0, 0, 1, 1, 2, 2, 0);
        Setups.facts(m, 1, 0, 15, 1, 14, 2, 13, 3, 12, 12, 3, 13, 2, 14, 1, 15, 0);
        Setups.facts(m, 2, 5, 5);
        m.allow(0, 3);
        m.allow(1, 14);
        m.allow(2, 4);
        m.fail(0, 2);
        Setups.rule(m, 0, 0, 16, 18, 0, 18, 17);
        Setups.rule(m, 0, 0, 16, 17);
        Setups.rule(m, 1, 1, 16, 17);
        Setups.query(m, 0, 16, 18, 1, 18, 17);
        m.run();
        m.retract(0, 2, 0);
        m.fact(0, 2, 3);
        m.allow(0, 5);
        m.fail(0, 1);
        m.fail(1, 2);
        m.fail(3, 9);
        return m;
    }

    /** A call on what stands has the answer that is due, and later calls show nothing changed. */
    static void changesNothing(Checks checks, String call, Function<ViewMediator, Object> made, Object want) {
        checks.due("what stands after " + call, text(m -> checks.due(call, made.apply(m), want)), DUE);
    }

    /** The same after something was done that changes what stands. */
    static void changesNothing(Checks checks, Consumer<ViewMediator> before, String call,
            Function<ViewMediator, Object> made, Object want) {
        String with = text(m -> {
            before.accept(m);
            checks.due(call, made.apply(m), want);
        });
        checks.due("what stands after " + call, with, text(before));
    }

    static String text(Consumer<ViewMediator> change) {
        StringBuilder text = new StringBuilder();
        text.append(part(change, m -> "run: " + latestRun(m)));
        text.append(part(change, m -> "run again, " + m.run() + ": " + latestRun(m)));
        for (int i = 0; i < 4; i++) {
            int relation = i;
            text.append("relation ").append(relation).append(": ")
                    .append(part(change, m -> rows(m, relation)))
                    .append(part(change, m -> " room " + roomForRows(m, relation)))
                    .append(part(change, m -> " patterns" + patterns(m, relation))).append('\n');
        }
        for (int i = 0; i < 3; i++) {
            int view = i;
            text.append("view ").append(view).append(": ")
                    .append(part(change, m -> "rules " + m.forget(view)))
                    .append(part(change, m -> " room " + roomForRules(m, view)))
                    .append(part(change, m -> ", of the latest " + roomForAtoms(m, view)))
                    .append(part(change, m -> ": " + rules(m, view))).append('\n');
        }
        return text.append("query: room ").append(part(change, m -> "" + roomInQuery(m))).append('\n').toString();
    }

    private static String part(Consumer<ViewMediator> change, Function<ViewMediator, String> look) {
        ViewMediator m = make();
        change.accept(m);
        return look.apply(m);
    }

    private static String latestRun(ViewMediator m) {
        StringBuilder text = new StringBuilder(Setups.shapes(m));
        text.append("\nresults: ").append(Setups.results(m)).append(" requests ").append(m.requests())
                .append(" tries ").append(m.tries()).append("\nfailures:");
        for (int r = 0; r < 4; r++) {
            text.append(' ').append(m.failures(r));
        }
        return text.append('\n').toString();
    }

    private static String rows(ViewMediator m, int relation) {
        m.fail(relation, 0);
        return Setups.rows(m, relation).toString();
    }

    private static int roomForRows(ViewMediator m, int relation) {
        int room = 0;
        for (int y = 0; y < 16; y++) {
            room += m.fact(relation, 11, y) ? 1 : 0;
        }
        return room;
    }

    private static String patterns(ViewMediator m, int relation) {
        StringBuilder text = new StringBuilder();
        for (int p = 0; p < 4; p++) {
            int a = (p & 1) != 0 ? 5 : 18;
            int b = (p & 2) != 0 ? 5 : 19;
            text.append(patternWith(m, relation, a, b) == p ? " " + p : "");
        }
        return text.toString();
    }

    /** The pattern of an atom of a relation, of whose terms nothing is known but the values. */
    private static int patternWith(ViewMediator m, int relation, int a, int b) {
        int helper = (relation + 1) % 4;
        m.allow(helper, Setups.ALL);
        m.forget(0);
        Setups.rule(m, 0, helper, 16, 17, relation, a, b);
        Setups.query(m, 0, 16, 17);
        m.run();
        return m.patternAt(0, m.atomAt(0, 0) / 4096 == relation ? 0 : 1);
    }

    private static int roomForRules(ViewMediator m, int view) {
        int room = 0;
        for (int i = 0; i < 3; i++) {
            room += m.rule(view) != -1 ? 1 : 0;
        }
        return room;
    }

    private static int roomForAtoms(ViewMediator m, int view) {
        int room = 0;
        for (int i = 0; i < 3; i++) {
            room += m.atom(view, 0, 16, 17) ? 1 : 0;
        }
        return room;
    }

    private static String rules(ViewMediator m, int view) {
        Setups.query(m, view, 16, 17);
        return m.run() == ViewMediator.BAD ? "BAD" : Setups.shapes(m);
    }

    private static int roomInQuery(ViewMediator m) {
        int room = 0;
        for (int i = 0; i < 4; i++) {
            room += m.ask(2, 16, 17) ? 1 : 0;
        }
        return room;
    }
}
