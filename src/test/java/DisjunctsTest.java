/** Promises 14 to 17 on ordinary inputs: disjuncts, size, atomAt, patternAt; with unfolding, reducing and order. */
final class DisjunctsTest {
    private static final Checks checks = new Checks();

    public static void main(String[] args) {
        choicesInOrder();
        variablesOfEveryQueryAtom();
        termsOfTheQueryAtom();
        codesOfAtoms();
        superfluousAtoms();
        superfluousAtomsOfSix();
        atomsThatStay();
        droppedDisjuncts();
        disjunctsThatStay();
        droppingSeesReducedDisjuncts();
        orderTakesTheFirstThatCanBeAsked();
        orderTakesTheGreatestPattern();
        blockedDisjunct();
        runsAfterAnother();
        checks.end();
    }

    private static void shapesDue(String what, ViewMediator m, String want) {
        m.run();
        checks.due(what, Setups.shapes(m), want);
    }

    private static void choicesInOrder() {
        ViewMediator m = Setups.open();
        Setups.rule(m, 0, 0, 16, 17);
        Setups.rule(m, 0, 1, 16, 17);
        Setups.query(m, 0, 16, 16, 0, 16, 17, 0, 17, 17);
        m.run();
        checks.due("disjuncts", m.disjuncts(), 8);
        for (int i = 0; i < 8; i++) {
            String want = (i >> 2) + "(16,16):0 " + (i >> 1 & 1) + "(16,17):1 " + (i & 1) + "(17,17):3";
            checks.due("choice " + i, Setups.shape(m, i), want);
        }
        Setups.rule(m, 1, 2, 16, 17);
        Setups.query(m, 0, 16, 16, 1, 16, 17, 0, 17, 17);
        shapesDue("two, one and two rules", m, "0(16,16):0 2(16,17):1 0(17,17):3 | 0(16,16):0 2(16,17):1 1(17,17):3"
                + " | 1(16,16):0 2(16,17):1 0(17,17):3 | 1(16,16):0 2(16,17):1 1(17,17):3");
    }

    private static void variablesOfEveryQueryAtom() {
        ViewMediator m = Setups.open();
        Setups.rule(m, 0, 0, 16, 18, 1, 19, 17);
        Setups.rule(m, 1, 2, 16, 20, 3, 21, 17);
        Setups.rule(m, 2, 2, 18, 16, 1, 17, 21);
        Setups.query(m, 0, 16, 17, 1, 16, 17, 2, 16, 17);
        shapesDue("18 .. 21 of all", m,
                "0(16,22):0 1(23,17):0 2(16,28):1 3(29,17):2 2(30,16):2 1(17,33):1");
        m.forget(0);
        Setups.rule(m, 0, 0, 20, 16, 1, 21, 17);
        shapesDue("20 and 21 of the first", m,
                "0(24,16):0 1(25,17):0 2(16,28):1 3(29,17):2 2(30,16):2 1(17,33):1");
    }

    private static void termsOfTheQueryAtom() {
        ViewMediator m = Setups.open();
        Setups.rule(m, 0, 0, 17, 16, 1, 16, 7);
        Setups.query(m, 0, 19, 16, 0, 3, 17);
        shapesDue("terms", m, "0(16,19):0 1(19,7):3 0(17,3):2 1(3,7):3");
        Setups.query(m, 0, 17, 17, 0, 16, 16);
        shapesDue("the same term twice", m, "0(17,17):0 1(17,7):3 0(16,16):0 1(16,7):3");
    }

    private static void codesOfAtoms() {
        ViewMediator m = Setups.open();
        Setups.rule(m, 0, 3, 16, 15, 0, 0, 17);
        Setups.query(m, 0, 16, 17);
        m.run();
        checks.due("size(0)", m.size(0), 2);
        checks.due("atomAt(0, 0)", m.atomAt(0, 0), (3 * 64 + 16) * 64 + 15);
        checks.due("atomAt(0, 1)", m.atomAt(0, 1), 17);
        checks.due("patternAt(0, 0)", m.patternAt(0, 0), 2);
        checks.due("patternAt(0, 1)", m.patternAt(0, 1), 1);
    }

    /** The shapes of one rule of two atoms, with another one of two atoms for the second query atom (16, 17). */
    private static String reduced(int[] first, int[] second) {
        ViewMediator m = Setups.open();
        Setups.rule(m, 0, first);
        Setups.rule(m, 1, second);
        Setups.query(m, 0, 16, 17, 1, 16, 17);
        m.run();
        return Setups.shapes(m);
    }

    private static void superfluousAtoms() {
        checks.due("the first of two that are the same goes",
                reduced(new int[] {0, 16, 17, 1, 16, 17}, new int[] {0, 16, 17}), "1(16,17):0 0(16,17):3");
        checks.due("the first of two that map into one another goes",
                reduced(new int[] {0, 16, 18, 1, 16, 17}, new int[] {0, 16, 18, 1, 16, 17}), "0(16,26):0 1(16,17):1");
        checks.due("a variable becomes 17",
                reduced(new int[] {0, 16, 17}, new int[] {0, 16, 18, 1, 16, 17}), "0(16,17):0 1(16,17):3");
        checks.due("a variable becomes a value",
                reduced(new int[] {0, 16, 18, 0, 17, 18}, new int[] {0, 16, 5, 0, 17, 5}), "0(16,5):2 0(17,5):2");
        checks.due("two variables become one",
                reduced(new int[] {0, 18, 19, 1, 16, 17}, new int[] {0, 18, 18, 1, 16, 17}), "0(26,26):0 1(16,17):0");
        checks.due("a longer way folds together",
                reduced(new int[] {0, 16, 18, 0, 18, 17}, new int[] {0, 16, 18, 0, 18, 17}), "0(16,26):0 0(26,17):1");
        checks.due("there and back become a loop",
                reduced(new int[] {0, 16, 18, 0, 18, 17}, new int[] {0, 16, 16, 0, 16, 17}), "0(16,16):0 0(16,17):1");
        ViewMediator m = Setups.open();
        Setups.rule(m, 0, 0, 16, 17);
        Setups.query(m, 0, 16, 17, 0, 18, 19, 0, 19, 20);
        shapesDue("a way of two does not fold into one step", m, "0(16,17):0 0(18,19):0 0(19,20):1");
        Setups.query(m, 0, 18, 19, 0, 19, 18, 0, 16, 17);
        shapesDue("a round of two needs a round", m, "0(18,19):0 0(19,18):3 0(16,17):0");
        Setups.query(m, 0, 16, 18, 0, 16, 17, 0, 19, 17);
        shapesDue("both ends are superfluous", m, "0(16,17):0");
    }

    private static void superfluousAtomsOfSix() {
        ViewMediator m = Setups.open();
        Setups.rule(m, 0, 0, 16, 18, 1, 17, 19);
        Setups.query(m, 0, 16, 17, 0, 16, 17, 0, 16, 17);
        shapesDue("the last two of six stay", m, "0(16,30):0 1(17,31):0");
        Setups.query(m, 0, 16, 17, 0, 18, 17, 0, 19, 16);
        shapesDue("the second, third and fifth of six go", m, "0(16,22):0 1(17,27):0 1(16,31):1");
    }

    private static void atomsThatStay() {
        checks.due("another relation",
                reduced(new int[] {0, 16, 17}, new int[] {1, 16, 17}), "0(16,17):0 1(16,17):3");
        checks.due("16 becomes nothing else",
                reduced(new int[] {0, 16, 17}, new int[] {0, 18, 17, 0, 17, 16}), "0(16,17):0 0(17,16):3");
        checks.due("17 becomes nothing else",
                reduced(new int[] {0, 16, 17}, new int[] {0, 16, 16, 0, 17, 17}),
                "0(16,17):0 0(16,16):3 0(17,17):3");
        checks.due("a value becomes nothing else",
                reduced(new int[] {0, 16, 17}, new int[] {0, 16, 5, 1, 16, 17}), "0(16,17):0 0(16,5):3 1(16,17):3");
        checks.due("a variable becomes the same wherever it stands",
                reduced(new int[] {0, 16, 18, 1, 18, 17}, new int[] {0, 16, 4, 1, 5, 17}),
                "0(16,22):0 1(22,17):1 0(16,4):3 1(5,17):3");
        checks.due("a loop becomes no pair",
                reduced(new int[] {0, 18, 18, 1, 16, 17}, new int[] {0, 16, 17}), "0(22,22):0 1(16,17):0 0(16,17):3");
    }

    private static String left(int[] first, int[] second) {
        ViewMediator m = Setups.open();
        Setups.rule(m, 0, first);
        Setups.rule(m, 0, second);
        Setups.query(m, 0, 16, 17);
        m.run();
        return Setups.shapes(m);
    }

    private static void droppedDisjuncts() {
        checks.due("the first of two that are the same",
                left(new int[] {0, 16, 18, 1, 18, 17}, new int[] {0, 16, 19, 1, 19, 17}), "0(16,23):0 1(23,17):1");
        checks.due("the first, by a later one",
                left(new int[] {0, 16, 17, 1, 16, 17}, new int[] {0, 16, 17}), "0(16,17):0");
        checks.due("the second, by an earlier one",
                left(new int[] {0, 16, 17}, new int[] {0, 16, 17, 1, 16, 17}), "0(16,17):0");
        checks.due("one with a value, by one with a variable",
                left(new int[] {0, 16, 18, 0, 17, 19}, new int[] {0, 16, 3, 0, 17, 4}), "0(16,22):0 0(17,23):0");
        ViewMediator m = Setups.open();
        Setups.rule(m, 0, 0, 16, 17);
        Setups.rule(m, 0, 1, 16, 17);
        Setups.query(m, 0, 16, 17, 0, 16, 17);
        shapesDue("those between are dropped", m, "0(16,17):0 | 1(16,17):0");
        Setups.query(m, 0, 16, 17, 0, 16, 17, 0, 16, 17);
        shapesDue("six of eight are dropped", m, "0(16,17):0 | 1(16,17):0");
        Setups.query(m, 0, 16, 17, 0, 17, 16);
        shapesDue("none of four is dropped", m, "0(16,17):0 0(17,16):3 | 0(16,17):0 1(17,16):3"
                + " | 1(16,17):0 0(17,16):3 | 1(16,17):0 1(17,16):3");
        Setups.query(m, 0, 16, 18, 0, 17, 18, 0, 16, 18);
        shapesDue("four of eight are dropped", m, "0(17,18):0 0(16,18):2 | 1(17,18):0 0(16,18):2"
                + " | 0(17,18):0 1(16,18):2 | 1(17,18):0 1(16,18):2");
    }

    private static void disjunctsThatStay() {
        checks.due("16 and 17 turned",
                left(new int[] {0, 16, 17}, new int[] {0, 17, 16}), "0(16,17):0 | 0(17,16):0");
        checks.due("none holds the other",
                left(new int[] {0, 16, 17, 1, 16, 18}, new int[] {0, 16, 17, 2, 16, 18}),
                "0(16,17):0 1(16,22):1 | 0(16,17):0 2(16,22):1");
        checks.due("other values", left(new int[] {0, 16, 3, 0, 17, 3}, new int[] {0, 16, 4, 0, 17, 4}),
                "0(16,3):2 0(17,3):2 | 0(16,4):2 0(17,4):2");
    }

    private static void droppingSeesReducedDisjuncts() {
        ViewMediator m = Setups.open();
        Setups.rule(m, 0, 0, 16, 17, 0, 16, 18);
        Setups.rule(m, 0, 0, 16, 17, 1, 16, 17);
        Setups.query(m, 0, 16, 17);
        shapesDue("the second is dropped by the reduced first", m, "0(16,17):0");
        checks.due("disjuncts", m.disjuncts(), 1);
        checks.due("size(1)", m.size(1), -1);
    }

    private static void orderTakesTheFirstThatCanBeAsked() {
        ViewMediator m = new ViewMediator();
        m.allow(0, 2);
        m.allow(1, 1);
        m.allow(2, 1);
        Setups.rule(m, 0, 0, 18, 16, 1, 18, 17);
        Setups.rule(m, 1, 2, 16, 17);
        Setups.query(m, 0, 16, 17, 1, 16, 17);
        shapesDue("back to the first", m, "1(22,17):0 0(22,16):1 2(16,17):0");
        m.allow(0, 4);
        shapesDue("back to the first, later", m, "1(22,17):0 2(16,17):0 0(22,16):2");
        m.allow(0, 8);
        shapesDue("both wanted", m, "1(22,17):0 2(16,17):0 0(22,16):3");
        m.allow(0, 15);
        shapesDue("in the list's order", m, "0(22,16):0 1(22,17):0 2(16,17):0");
        m.allow(2, 8);
        m.allow(1, 2);
        shapesDue("one opens the next", m, "0(22,16):0 1(22,17):1 2(16,17):3");
    }

    private static void orderTakesTheGreatestPattern() {
        ViewMediator m = Setups.open();
        Setups.rule(m, 0, 0, 16, 17, 0, 17, 3);
        Setups.query(m, 0, 16, 17);
        shapesDue("all allowed", m, "0(16,17):0 0(17,3):3");
        m.allow(0, 7);
        shapesDue("3 not allowed", m, "0(16,17):0 0(17,3):2");
        m.allow(0, 3);
        shapesDue("0 and 1 allowed", m, "0(16,17):0 0(17,3):1");
        m.allow(0, 6);
        shapesDue("1 and 2 allowed: the value opens it", m, "0(17,3):2 0(16,17):2");
    }

    private static void blockedDisjunct() {
        ViewMediator m = new ViewMediator();
        m.allow(0, 2);
        m.allow(1, 1);
        m.allow(3, 4);
        Setups.rule(m, 0, 0, 18, 16, 3, 17, 19);
        Setups.rule(m, 1, 1, 16, 17, 2, 17, 4);
        Setups.rule(m, 2, 3, 20, 17, 0, 16, 21);
        Setups.query(m, 0, 16, 9, 1, 16, 17, 2, 17, 17);
        checks.due("blocked", m.run(), ViewMediator.BLOCKED);
        checks.due("in order, then as listed", Setups.shapes(m),
                "1(16,17):0 3(32,17):2 0(17,33):1 0(22,16):-1 3(9,23):-1 2(17,4):-1");
        checks.due("patternAt of a blocked atom", m.patternAt(0, 5), -1);
        checks.due("atomAt of a blocked atom", m.atomAt(0, 5), (2 * 64 + 17) * 64 + 4);
        m.forget(0);
        m.forget(1);
        Setups.rule(m, 0, 0, 16, 16, 0, 17, 17);
        Setups.query(m, 0, 16, 17);
        checks.due("an atom does not open itself", m.run(), ViewMediator.BLOCKED);
        checks.due("none in order", Setups.shapes(m), "0(16,16):-1 0(17,17):-1");
    }

    private static void runsAfterAnother() {
        ViewMediator m = Setups.open();
        Setups.rule(m, 0, 0, 16, 18, 0, 18, 17);
        Setups.rule(m, 0, 1, 16, 17);
        Setups.query(m, 0, 16, 17);
        shapesDue("two", m, "0(16,22):0 0(22,17):1 | 1(16,17):0");
        m.allow(0, 0);
        shapesDue("blocked", m, "0(16,22):-1 0(22,17):-1 | 1(16,17):0");
        m.forget(0);
        Setups.rule(m, 0, 1, 16, 17);
        shapesDue("one", m, "1(16,17):0");
        checks.due("disjuncts", m.disjuncts(), 1);
        checks.due("size(0)", m.size(0), 1);
        checks.due("size(1)", m.size(1), -1);
        checks.due("atomAt(0, 1)", m.atomAt(0, 1), -1);
        checks.due("patternAt(0, 1)", m.patternAt(0, 1), -1);
    }
}
