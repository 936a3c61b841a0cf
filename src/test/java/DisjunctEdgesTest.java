/** The boundary cases of promises 14 to 17, each sentence or part of a sentence in a test of its own. */
final class DisjunctEdgesTest {
    private static final Checks checks = new Checks();

    public static void main(String[] args) {
        noneWithoutARun();
        disjunctsOneToEight();
        disjunctsAfterDropping();
        disjunctsAfterBlockedAndSilent();
        disjunctsOfTheLatestRunAlone();
        sizeOneToSix();
        sizeRefusesDisjuncts();
        atomAtOfEveryPlace();
        atomAtLeastAndGreatest();
        atomAtRefusesDisjuncts();
        atomAtRefusesPlaces();
        patternAtZeroToThree();
        patternAtRefusesDisjuncts();
        patternAtRefusesPlaces();
        blockedAtomsHaveNoPattern();
        checks.end();
    }

    /** An object whose run leaves so many disjuncts (1, 2, 4 or 8), each of three atoms. */
    private static ViewMediator withDisjuncts(int count) {
        ViewMediator m = Setups.open();
        for (int v = 0; v < 3; v++) {
            Setups.rule(m, v, 0, 16, 17);
            if (count > 1 << v) {
                Setups.rule(m, v, 1, 16, 17);
            }
        }
        // In a ring through 16 and 17 no disjunct maps into another.
        Setups.query(m, 0, 16, 17, 1, 17, 18, 2, 18, 16);
        m.run();
        return m;
    }

    /** An object whose run leaves one disjunct of so many atoms, 1 .. 6. */
    private static ViewMediator withAtoms(int count) {
        ViewMediator m = Setups.open();
        for (int i = 0; i < count; i++) {
            int view = i / 2;
            if (i % 2 == 0) {
                m.rule(view);
                m.ask(view, 16, 17);
            }
            m.atom(view, view, 16 + i % 2, 17 - i % 2);
        }
        m.run();
        return m;
    }

    // "without such a run as after one of a query without disjuncts"; promise 14: "0 without a run."

    private static void noneWithoutARun() {
        ViewMediator m = new ViewMediator();
        for (int time = 0; time < 2; time++) {
            checks.due("disjuncts", m.disjuncts(), 0);
            for (int i = -1; i <= 8; i++) {
                checks.due("size(" + i + ")", m.size(i), -1);
                checks.due("atomAt(" + i + ", 0)", m.atomAt(i, 0), -1);
                checks.due("atomAt(0, " + i + ")", m.atomAt(0, i), -1);
                checks.due("patternAt(" + i + ", 0)", m.patternAt(i, 0), -1);
                checks.due("patternAt(0, " + i + ")", m.patternAt(0, i), -1);
            }
            checks.due("run", m.run(), ViewMediator.BAD);
        }
    }

    // Promise 14: "How many disjuncts were left"

    private static void disjunctsOneToEight() {
        for (int count = 1; count <= 8; count *= 2) {
            checks.due("disjuncts of " + count, withDisjuncts(count).disjuncts(), count);
        }
    }

    private static void disjunctsAfterDropping() {
        ViewMediator m = Setups.open();
        Setups.rule(m, 0, 0, 16, 17);
        Setups.rule(m, 0, 1, 16, 17);
        Setups.query(m, 0, 16, 17, 0, 16, 17, 0, 16, 17);
        m.run();
        checks.due("two of eight are left", m.disjuncts(), 2);
        checks.due("size(1)", m.size(1), 1);
        checks.due("size(2)", m.size(2), -1);
        m.forget(0);
        Setups.rule(m, 0, 0, 16, 17);
        Setups.rule(m, 0, 0, 16, 17);
        m.run();
        checks.due("one of eight is left", m.disjuncts(), 1);
        checks.due("size(0)", m.size(0), 1);
        checks.due("size(1)", m.size(1), -1);
        m.forget(0);
        Setups.rule(m, 0, 0, 16, 17);
        Setups.rule(m, 0, 1, 16, 17);
        Setups.query(m, 0, 16, 17, 0, 17, 18, 0, 18, 16);
        m.run();
        checks.due("all of eight are left", m.disjuncts(), 8);
        for (int d = 0; d < 8; d++) {
            String due = (d >> 2) + "(16,17):0 " + (d >> 1 & 1) + "(17,18):1 " + (d & 1) + "(18,16):3";
            checks.due("choice " + d, Setups.shape(m, d), due);
        }
    }

    private static void disjunctsAfterBlockedAndSilent() {
        ViewMediator m = withDisjuncts(8);
        m.fail(0, 3);
        checks.due("run", m.run(), ViewMediator.SILENT);
        checks.due("disjuncts after SILENT", m.disjuncts(), 8);
        checks.due("size(7) after SILENT", m.size(7), 3);
        checks.due("patternAt(7, 2) after SILENT", m.patternAt(7, 2), 3);
        m.allow(0, 0);
        checks.due("run", m.run(), ViewMediator.BLOCKED);
        checks.due("disjuncts after BLOCKED", m.disjuncts(), 8);
        checks.due("size(0) after BLOCKED", m.size(0), 3);
        checks.due("patternAt(0, 0) after BLOCKED", m.patternAt(0, 0), -1);
        checks.due("patternAt(7, 2) after BLOCKED", m.patternAt(7, 2), 3);
    }

    /** "All that follows is about the latest run that was not BAD" */
    private static void disjunctsOfTheLatestRunAlone() {
        ViewMediator m = withDisjuncts(8);
        Setups.query(m, 0, 16, 17);
        m.run();
        checks.due("disjuncts after a smaller run", m.disjuncts(), 2);
        checks.due("size(1)", m.size(1), 1);
        checks.due("size(2)", m.size(2), -1);
        checks.due("size(7)", m.size(7), -1);
        checks.due("atomAt(1, 1)", m.atomAt(1, 1), -1);
        checks.due("atomAt(2, 0)", m.atomAt(2, 0), -1);
        checks.due("patternAt(1, 1)", m.patternAt(1, 1), -1);
        checks.due("patternAt(2, 0)", m.patternAt(2, 0), -1);
        Setups.query(m, 0, 16, 17, 1, 17, 18, 2, 18, 16);
        m.run();
        checks.due("disjuncts after a greater run", m.disjuncts(), 8);
        checks.due("size(7)", m.size(7), 3);
    }

    // Promise 15: "How many atoms a disjunct that was left has; -1 when there is none with that number."

    private static void sizeOneToSix() {
        for (int count = 1; count <= 6; count++) {
            checks.due("size(0) of " + count, withAtoms(count).size(0), count);
        }
    }

    private static void sizeRefusesDisjuncts() {
        for (int count = 1; count <= 8; count *= 2) {
            ViewMediator m = withDisjuncts(count);
            for (int d = 0; d < count; d++) {
                checks.due("size(" + d + ") of " + count, m.size(d), 3);
            }
            for (int d : Outside.of(count - 1)) {
                checks.due("size(" + d + ") of " + count, m.size(d), -1);
            }
        }
        for (int d : Outside.of(1)) {
            Standing.changesNothing(checks, "size(" + d + ")", m -> m.size(d), -1);
        }
        Standing.changesNothing(checks, "size(0)", m -> m.size(0), 3);
        Standing.changesNothing(checks, "size(1)", m -> m.size(1), 2);
    }

    // Promise 16: "(relation * 64 + first term) * 64 + second term; -1 when there is none."

    private static void atomAtOfEveryPlace() {
        for (int count = 1; count <= 6; count++) {
            ViewMediator m = withAtoms(count);
            for (int i = 0; i < count; i++) {
                int due = (i / 2 * 64 + 16 + i % 2) * 64 + 17 - i % 2;
                checks.due("atomAt(0, " + i + ") of " + count, m.atomAt(0, i), due);
            }
        }
    }

    private static void atomAtLeastAndGreatest() {
        ViewMediator m = Setups.open();
        Setups.rule(m, 0, 0, 0, 0, 0, 16, 17);
        Setups.query(m, 0, 16, 17);
        m.run();
        checks.due("relation 0, values 0 and 0", m.atomAt(0, 0), 0);
        m.forget(0);
        Setups.rule(m, 0, 3, 16, 17);
        Setups.rule(m, 1, 3, 21, 21, 3, 16, 17);
        Setups.query(m, 0, 16, 17, 0, 16, 17, 1, 16, 17);
        m.run();
        checks.due("relation 3, variables 33 and 33", m.atomAt(0, 0), (3 * 64 + 33) * 64 + 33);
        checks.due("relation 3, variables 16 and 17", m.atomAt(0, 1), (3 * 64 + 16) * 64 + 17);
    }

    private static void atomAtRefusesDisjuncts() {
        ViewMediator m = withDisjuncts(8);
        for (int d : Outside.of(7)) {
            checks.due("atomAt(" + d + ", 0)", m.atomAt(d, 0), -1);
            checks.due("atomAt(" + d + ", 2)", m.atomAt(d, 2), -1);
        }
        checks.due("atomAt(7, 0)", m.atomAt(7, 0), (64 + 16) * 64 + 17);
        for (int d : Outside.of(1)) {
            Standing.changesNothing(checks, "atomAt(" + d + ", 0)", s -> s.atomAt(d, 0), -1);
        }
    }

    private static void atomAtRefusesPlaces() {
        for (int count = 1; count <= 6; count++) {
            ViewMediator m = withAtoms(count);
            for (int i : Outside.of(count - 1)) {
                checks.due("atomAt(0, " + i + ") of " + count, m.atomAt(0, i), -1);
                checks.due("atomAt(" + i + ", " + i + ")", m.atomAt(i, i), -1);
            }
        }
        for (int d = 0; d < 8; d++) {
            ViewMediator m = withDisjuncts(8);
            for (int i : Outside.of(2)) {
                checks.due("atomAt(" + d + ", " + i + ") of eight disjuncts", m.atomAt(d, i), -1);
            }
        }
        // Disjunct 0 has three atoms, disjunct 1 two: each has its own bound.
        Standing.changesNothing(checks, "atomAt(0, 2)", m -> m.atomAt(0, 2), (64 + 18) * 64 + 17);
        Standing.changesNothing(checks, "atomAt(1, 1)", m -> m.atomAt(1, 1), (64 + 18) * 64 + 17);
        Standing.changesNothing(checks, "atomAt(1, 2)", m -> m.atomAt(1, 2), -1);
        for (int i : Outside.of(2)) {
            Standing.changesNothing(checks, "atomAt(0, " + i + ")", m -> m.atomAt(0, i), -1);
        }
    }

    // Promise 17: "The pattern with which that atom is asked; -1 when there is no such atom, or it could not be put in
    // order."

    private static void patternAtZeroToThree() {
        for (int p = 0; p < 4; p++) {
            ViewMediator m = new ViewMediator();
            m.allow(0, 1);
            m.allow(1, 1 << p);
            Setups.rule(m, 0, 0, 16, 17, 1, 16, 17);
            Setups.query(m, 0, 16, 17);
            m.run();
            int place = m.atomAt(0, 0) / 4096 == 1 ? 0 : 1;
            checks.due("pattern " + p, m.patternAt(0, place), p);
        }
    }

    private static void patternAtRefusesDisjuncts() {
        ViewMediator m = withDisjuncts(8);
        for (int d : Outside.of(7)) {
            checks.due("patternAt(" + d + ", 0)", m.patternAt(d, 0), -1);
            checks.due("patternAt(" + d + ", 2)", m.patternAt(d, 2), -1);
        }
        checks.due("patternAt(7, 0)", m.patternAt(7, 0), 0);
        checks.due("patternAt(7, 2)", m.patternAt(7, 2), 3);
        for (int d : Outside.of(1)) {
            Standing.changesNothing(checks, "patternAt(" + d + ", 0)", s -> s.patternAt(d, 0), -1);
        }
    }

    private static void patternAtRefusesPlaces() {
        for (int count = 1; count <= 6; count++) {
            ViewMediator m = withAtoms(count);
            for (int i = 0; i < count; i++) {
                checks.due("patternAt(0, " + i + ") of " + count, m.patternAt(0, i), i == 0 ? 0 : 3);
            }
            for (int i : Outside.of(count - 1)) {
                checks.due("patternAt(0, " + i + ") of " + count, m.patternAt(0, i), -1);
                checks.due("patternAt(" + i + ", " + i + ")", m.patternAt(i, i), -1);
            }
        }
        for (int d = 0; d < 8; d++) {
            ViewMediator m = withDisjuncts(8);
            for (int i : Outside.of(2)) {
                checks.due("patternAt(" + d + ", " + i + ") of eight disjuncts", m.patternAt(d, i), -1);
            }
        }
        Standing.changesNothing(checks, "patternAt(0, 2)", m -> m.patternAt(0, 2), 1);
        Standing.changesNothing(checks, "patternAt(1, 1)", m -> m.patternAt(1, 1), 1);
        Standing.changesNothing(checks, "patternAt(1, 2)", m -> m.patternAt(1, 2), -1);
        for (int i : Outside.of(2)) {
            Standing.changesNothing(checks, "patternAt(0, " + i + ")", m -> m.patternAt(0, i), -1);
        }
    }

    // Promise 16: "of one that is blocked: those that were put in order, then the others as the disjunct lists them"

    private static void blockedAtomsHaveNoPattern() {
        ViewMediator m = withAtoms(6);
        m.allow(0, 0);
        m.allow(1, 8);
        m.allow(2, 1);
        checks.due("run", m.run(), ViewMediator.BLOCKED);
        checks.due("size(0)", m.size(0), 6);
        checks.due("four in order, two not", Setups.shape(m, 0),
                "2(16,17):0 1(16,17):3 1(17,16):3 2(17,16):0 0(16,17):-1 0(17,16):-1");
        checks.due("atomAt(0, 5)", m.atomAt(0, 5), 17 * 64 + 16);
        checks.due("atomAt(0, 6)", m.atomAt(0, 6), -1);
        checks.due("patternAt(0, 3)", m.patternAt(0, 3), 0);
        checks.due("patternAt(0, 4)", m.patternAt(0, 4), -1);
        checks.due("patternAt(0, 5)", m.patternAt(0, 5), -1);
        checks.due("patternAt(0, 6)", m.patternAt(0, 6), -1);
        m.allow(2, 8);
        checks.due("run", m.run(), ViewMediator.BLOCKED);
        checks.due("none in order", Setups.shape(m, 0),
                "0(16,17):-1 0(17,16):-1 1(16,17):-1 1(17,16):-1 2(16,17):-1 2(17,16):-1");
    }
}
