/** The boundary cases of the terms, of unfolding, reducing and order, each in a test of its own. */
final class UnfoldingEdgesTest {
    private static final Checks checks = new Checks();

    public static void main(String[] args) {
        valuesStay();
        sixteenAndSeventeenBecomeTheQueryAtomsTerms();
        otherVariablesBecomeTheQueryAtomsOwn();
        variablesOfTheQueryStay();
        choicesOfEveryNumberOfRules();
        choicesOfOneAndTwoAtoms();
        everyOtherVariableMaps();
        sixteenSeventeenAndValuesStayInMaps();
        oneAtomIsNeverTakenOut();
        lastOfSeveralStays();
        sixAtomsStay();
        listAsItStandsThen();
        lastOfEightDisjunctsIsLeft();
        firstOfEightDisjunctsIsLeft();
        allOfEightDisjunctsAreLeft();
        valuesAreKnown();
        nothingIsKnownByTheAtomItself();
        variablesAreKnownByAtomsBefore();
        firstThatCanBeAskedComesNext();
        greatestPatternIsTaken();
        blockedKeepsTheListsOrder();
        checks.end();
    }

    private static void shapesDue(String what, ViewMediator m, String want) {
        m.run();
        checks.due(what, Setups.shapes(m), want);
    }

    // UNFOLDING: "values stay; 16 becomes the query atom's first term, 17 its second; any other variable v becomes the
    // variable 4 + 4 * i + v, with i the number of the query atom (so these are 22 .. 33)."

    private static void valuesStay() {
        for (int value = 0; value < 16; value++) {
            ViewMediator m = Setups.open();
            for (int v = 0; v < 3; v++) {
                Setups.rule(m, v, v, 16, value, v + 1, value, 17);
            }
            Setups.query(m, 0, 16, 17, 1, 16, 17, 2, 16, 17);
            shapesDue("value " + value, m, "0(16,#):2 1(#,17):1 1(16,#):3 2(#,17):3 2(16,#):3 3(#,17):3"
                    .replace("#", "" + value));
        }
    }

    private static void sixteenAndSeventeenBecomeTheQueryAtomsTerms() {
        for (int i = 0; i < 3; i++) {
            for (int term = 0; term <= 21; term++) {
                ViewMediator m = Setups.open();
                Setups.rule(m, 0, 0, 16, 17);
                Setups.rule(m, 1, 1, 16, 16, 2, 17, 17);
                for (int j = 0; j < 3; j++) {
                    m.ask(j == i ? 1 : 0, j == i ? term : 16, j == i ? 21 - term : 17);
                }
                m.run();
                checks.due("16 of atom " + i, termsOf(m, 1), term * 64 + term);
                checks.due("17 of atom " + i, termsOf(m, 2), (21 - term) * 64 + 21 - term);
            }
        }
    }

    /** The terms of the first atom of a relation in disjunct 0, as 64 * first + second; -1 without such an atom. */
    private static int termsOf(ViewMediator m, int relation) {
        for (int i = 0; i < m.size(0); i++) {
            if (m.atomAt(0, i) / 4096 == relation) {
                return m.atomAt(0, i) % 4096;
            }
        }
        return -1;
    }

    private static void otherVariablesBecomeTheQueryAtomsOwn() {
        for (int i = 0; i < 3; i++) {
            for (int v = 18; v <= 21; v++) {
                ViewMediator m = Setups.open();
                Setups.rule(m, 0, 0, 16, 17);
                Setups.rule(m, 1, 1, 16, v, 2, v, 17);
                for (int j = 0; j < 3; j++) {
                    m.ask(j == i ? 1 : 0, 16, 17);
                }
                m.run();
                int own = 22 + 4 * i + v - 18;
                checks.due(v + " of atom " + i + ", second", termsOf(m, 1), 16 * 64 + own);
                checks.due(v + " of atom " + i + ", first", termsOf(m, 2), own * 64 + 17);
            }
        }
    }

    private static void variablesOfTheQueryStay() {
        for (int v = 18; v <= 21; v++) {
            ViewMediator m = Setups.open();
            Setups.rule(m, 0, 0, 16, v, 1, v, 17);
            Setups.query(m, 0, 16, v, 0, v, 17);
            String want = "0(16,A):0 1(A,V):1 0(V,B):1 1(B,17):1"
                    .replace("A", "" + (v + 4)).replace("B", "" + (v + 8)).replace("V", "" + v);
            shapesDue("variable " + v + " of the query and of the rule", m, want);
        }
    }

    // UNFOLDING: "Choices come in the order of growing rule numbers, the rule for query atom 0 counting most (0 0, 0 1,
    // 1 0, 1 1 for two atoms with two rules each)."

    private static void choicesOfEveryNumberOfRules() {
        for (int two = 0; two < 8; two++) {
            ViewMediator m = Setups.open();
            StringBuilder want = new StringBuilder();
            for (int v = 0; v < 3; v++) {
                Setups.rule(m, v, 0, 16, 17);
                if ((two & 1 << v) != 0) {
                    Setups.rule(m, v, 1, 16, 17);
                }
            }
            for (int choice = 0; choice < 8; choice++) {
                int first = choice >> 2;
                int second = choice >> 1 & 1;
                int third = choice & 1;
                if (((first | second << 1 | third << 2) & ~two) == 0) {
                    want.append(want.length() == 0 ? "" : " | ").append(first).append("(16,17):0 ")
                            .append(second).append("(17,18):1 ").append(third).append("(18,16):3");
                }
            }
            // In a ring through 16 and 17 no disjunct maps into another.
            Setups.query(m, 0, 16, 17, 1, 17, 18, 2, 18, 16);
            shapesDue("choices", m, want.toString());
            checks.due("disjuncts", m.disjuncts(), 1 << Integer.bitCount(two));
        }
    }

    private static void choicesOfOneAndTwoAtoms() {
        ViewMediator m = Setups.open();
        Setups.rule(m, 0, 0, 16, 17);
        Setups.rule(m, 0, 1, 16, 17);
        Setups.query(m, 0, 16, 17);
        shapesDue("one atom with two rules", m, "0(16,17):0 | 1(16,17):0");
        Setups.query(m, 0, 16, 17, 0, 17, 16);
        shapesDue("two atoms with two rules each", m, "0(16,17):0 0(17,16):3 | 0(16,17):0 1(17,16):3"
                + " | 1(16,17):0 0(17,16):3 | 1(16,17):0 1(17,16):3");
    }

    // MAPS INTO: "every variable of the first but 16 and 17 can be given a term, the same wherever it stands, such that
    // (values, 16 and 17 staying what they are) each atom of the first becomes an atom of the second."

    private static void everyOtherVariableMaps() {
        for (int v = 18; v <= 21; v++) {
            for (int i = 0; i < 3; i++) {
                ViewMediator m = Setups.open();
                Setups.rule(m, 0, 0, 16, 17);
                Setups.rule(m, 1, 0, 16, v, 0, v, 17);
                for (int j = 0; j < 3; j++) {
                    m.ask(j == i ? 1 : 0, 16, j == (i + 1) % 3 ? 16 : 17);
                }
                m.run();
                checks.due(v + " of atom " + i + " becomes 16", m.size(0), 2);
            }
            ViewMediator m = Setups.open();
            Setups.rule(m, 0, 0, 16, 17);
            Setups.query(m, 0, 16, v, 0, 16, 17);
            shapesDue(v + " of the query becomes 17", m, "0(16,17):0");
            Setups.query(m, 0, 16, 17, 0, v, 17);
            shapesDue(v + " of the query becomes 16", m, "0(16,17):0");
            Setups.query(m, 0, 16, 17, 0, v, 15, 0, 0, 15);
            shapesDue(v + " of the query becomes 0", m, "0(16,17):0 0(0,15):3");
            Setups.query(m, 0, 16, 17, 0, 0, v, 0, 0, 15);
            shapesDue(v + " of the query becomes 15", m, "0(16,17):0 0(0,15):3");
        }
    }

    private static void sixteenSeventeenAndValuesStayInMaps() {
        ViewMediator m = Setups.open();
        Setups.rule(m, 0, 0, 16, 17);
        Setups.query(m, 0, 16, 17, 0, 17, 17);
        shapesDue("16 does not become 17", m, "0(16,17):0 0(17,17):3");
        Setups.query(m, 0, 16, 17, 0, 16, 16);
        shapesDue("17 does not become 16", m, "0(16,17):0 0(16,16):3");
        Setups.query(m, 0, 16, 17, 0, 18, 17, 0, 19, 17);
        shapesDue("16 does not become 18", m, "0(16,17):0");
        for (int value = 0; value < 15; value++) {
            Setups.query(m, 0, 16, value, 0, 16, value + 1, 0, 16, 17);
            shapesDue(value + " does not become " + (value + 1), m,
                    "0(16," + value + "):2 0(16," + (value + 1) + "):3 0(16,17):1");
        }
        Setups.query(m, 0, 16, 18, 0, 17, 18, 0, 16, 15);
        shapesDue("18 becomes 15 here, so also there", m, "0(16,18):0 0(17,18):2 0(16,15):3");
    }

    // REDUCING: "in every disjunct its atoms are gone through from the first to the last; one is taken out if the list
    // as it stands then maps into that list without it."

    private static void oneAtomIsNeverTakenOut() {
        ViewMediator m = Setups.open();
        Setups.rule(m, 0, 0, 16, 17);
        Setups.query(m, 0, 16, 17);
        shapesDue("one atom", m, "0(16,17):0");
        Setups.query(m, 0, 17, 16);
        shapesDue("one atom, turned", m, "0(17,16):0");
    }

    private static void lastOfSeveralStays() {
        ViewMediator m = Setups.open();
        Setups.rule(m, 0, 0, 16, 17, 0, 16, 17);
        Setups.query(m, 0, 16, 17);
        shapesDue("two that are the same", m, "0(16,17):0");
        Setups.query(m, 0, 16, 17, 0, 16, 17, 0, 16, 17);
        shapesDue("six that are the same", m, "0(16,17):0");
        m.forget(0);
        Setups.rule(m, 0, 0, 16, 18, 1, 17, 18);
        shapesDue("the last of three pairs", m, "0(16,30):0 1(17,30):2");
        m.forget(0);
        Setups.rule(m, 0, 0, 16, 21, 0, 21, 17);
        shapesDue("the last of three ways", m, "0(16,33):0 0(33,17):1");
    }

    private static void sixAtomsStay() {
        ViewMediator m = Setups.open();
        Setups.rule(m, 0, 0, 16, 18, 1, 18, 17);
        Setups.query(m, 0, 16, 18, 0, 18, 17, 0, 17, 16);
        shapesDue("six atoms", m, "0(16,22):0 1(22,18):1 0(18,26):1 1(26,17):1 0(17,30):1 1(30,16):3");
        Setups.query(m, 0, 16, 17, 0, 17, 16, 0, 18, 17);
        shapesDue("the last two of six go", m, "0(16,22):0 1(22,17):1 0(17,26):1 1(26,16):3");
        Setups.query(m, 0, 18, 17, 0, 16, 17, 0, 17, 16);
        shapesDue("the first two of six go", m, "0(16,26):0 1(26,17):1 0(17,30):1 1(30,16):3");
    }

    private static void listAsItStandsThen() {
        ViewMediator m = Setups.open();
        Setups.rule(m, 0, 0, 16, 17);
        Setups.rule(m, 1, 0, 16, 17, 1, 16, 17);
        Setups.query(m, 0, 18, 17, 0, 19, 17, 1, 16, 17);
        shapesDue("each of those before the last goes", m, "0(16,17):0 1(16,17):3");
        Setups.query(m, 1, 16, 17, 0, 18, 18, 0, 19, 19);
        shapesDue("the first of two loops goes, the other has none left", m, "0(16,17):0 1(16,17):3 0(19,19):0");
    }

    // REDUCING: "Then the disjuncts are gone through from the first to the last; one is DROPPED if some other one that was
    // not dropped maps into it. Those that are left are numbered 0, 1, .. in their order." So of those that map into one
    // another each but the last is dropped by a later one, and the last stays, for the others are dropped by then.

    private static void lastOfEightDisjunctsIsLeft() {
        ViewMediator m = Setups.open();
        Setups.rule(m, 0, 0, 16, 18, 0, 18, 17);
        Setups.rule(m, 0, 0, 16, 19, 0, 19, 17);
        Setups.query(m, 0, 16, 17);
        shapesDue("the second of two that are alike", m, "0(16,23):0 0(23,17):1");
        Setups.query(m, 0, 16, 17, 0, 16, 17, 0, 16, 17);
        shapesDue("the last of eight that are alike", m, "0(16,31):0 0(31,17):1");
        checks.due("disjuncts", m.disjuncts(), 1);
        checks.due("size(1)", m.size(1), -1);
        checks.due("size(7)", m.size(7), -1);
    }

    private static void firstOfEightDisjunctsIsLeft() {
        ViewMediator m = Setups.open();
        for (int v = 0; v < 3; v++) {
            Setups.rule(m, v, 0, 16, 17);
            Setups.rule(m, v, 0, 16, 17, 1 + v, 16, 17);
        }
        Setups.query(m, 0, 16, 17, 1, 16, 17, 2, 16, 17);
        shapesDue("the first of eight maps into all", m, "0(16,17):0");
        for (int v = 0; v < 3; v++) {
            m.forget(v);
            Setups.rule(m, v, 0, 16, 17, 1 + v, 16, 17);
            Setups.rule(m, v, 0, 16, 17);
        }
        shapesDue("the last of eight maps into all", m, "0(16,17):0");
    }

    private static void allOfEightDisjunctsAreLeft() {
        ViewMediator m = Setups.open();
        Setups.rule(m, 0, 0, 16, 17);
        Setups.rule(m, 0, 1, 16, 17);
        Setups.query(m, 0, 16, 16, 0, 16, 17, 0, 17, 17);
        m.run();
        checks.due("disjuncts", m.disjuncts(), 8);
        Setups.query(m, 0, 16, 18, 0, 16, 17, 0, 17, 17);
        shapesDue("those with two relations for the first two go", m, "0(16,17):0 0(17,17):3 | 0(16,17):0 1(17,17):3"
                + " | 1(16,17):0 0(17,17):3 | 1(16,17):0 1(17,17):3");
    }

    // ORDER: "a term of a disjunct is KNOWN if it is a value, or a variable of an atom that was put in order before."

    private static void valuesAreKnown() {
        for (int value = 0; value < 16; value++) {
            ViewMediator m = new ViewMediator();
            m.allow(0, 8);
            m.allow(1, 1);
            Setups.rule(m, 0, 1, 16, 17, 0, value, 15 - value);
            Setups.query(m, 0, 16, 17);
            shapesDue("both values", m, "1(16,17):0 0(" + value + "," + (15 - value) + "):3");
            m.forget(0);
            m.allow(0, 2);
            Setups.rule(m, 0, 0, value, 16, 0, 16, 17);
            shapesDue("first value " + value, m, "0(" + value + ",16):1 0(16,17):1");
            m.forget(0);
            m.allow(0, 4);
            Setups.rule(m, 0, 0, 16, 17, 0, 17, value);
            shapesDue("second value " + value, m, "0(17," + value + "):2 0(16,17):2");
        }
    }

    private static void nothingIsKnownByTheAtomItself() {
        for (int patterns = 0; patterns < 16; patterns++) {
            ViewMediator m = new ViewMediator();
            m.allow(1, 1);
            m.allow(0, patterns);
            Setups.rule(m, 0, 1, 16, 17, 0, 18, 18);
            Setups.query(m, 0, 16, 17);
            int due = (patterns & 1) != 0 ? 0 : -1;
            checks.due("run with patterns " + patterns, m.run(), due == 0 ? 0 : ViewMediator.BLOCKED);
            checks.due("a variable twice in one atom", Setups.shapes(m), "1(16,17):0 0(22,22):" + due);
        }
    }

    private static void variablesAreKnownByAtomsBefore() {
        ViewMediator m = new ViewMediator();
        m.allow(0, 1);
        m.allow(1, 2);
        m.allow(2, 4);
        m.allow(3, 8);
        Setups.rule(m, 0, 0, 16, 18, 1, 16, 17);
        Setups.rule(m, 1, 2, 16, 17, 3, 16, 17);
        Setups.query(m, 0, 16, 17, 1, 18, 17);
        shapesDue("known by first and by second terms", m, "0(16,22):0 1(16,17):1 2(18,17):2 3(18,17):3");
        Setups.query(m, 1, 18, 17, 0, 16, 17);
        shapesDue("known by an atom that comes later in the list", m, "0(16,26):0 1(16,17):1 2(18,17):2 3(18,17):3");
    }

    // ORDER: "Again and again the first atom, in the disjunct's list, that was not put in order and can be asked with
    // some pattern is put next in order; its pattern is the greatest with which it can be asked."

    private static void firstThatCanBeAskedComesNext() {
        ViewMediator m = new ViewMediator();
        m.allow(0, 2);
        m.allow(1, 1);
        Setups.rule(m, 0, 0, 16, 18, 0, 18, 17);
        Setups.rule(m, 1, 1, 16, 17);
        Setups.query(m, 0, 18, 17, 1, 17, 16, 1, 16, 18);
        shapesDue("the first of the list as soon as it can be asked", m,
                "1(17,16):0 1(16,18):0 0(18,22):1 0(22,17):1");
        m.allow(0, 3);
        shapesDue("the list's own order", m, "0(18,22):0 0(22,17):1 1(17,16):0 1(16,18):0");
        m.allow(0, 2);
        m.allow(1, 5);
        shapesDue("the first, not the one with the greatest pattern", m,
                "1(17,16):0 1(16,18):0 0(18,22):1 0(22,17):1");
    }

    private static void greatestPatternIsTaken() {
        int[][] usable = {{0}, {0, 1}, {0, 2}, {0, 1, 2, 3}};
        for (int patterns = 0; patterns < 16; patterns++) {
            for (int known = 0; known < 4; known++) {
                int due = -1;
                for (int p : usable[known]) {
                    due = (patterns & 1 << p) != 0 ? p : due;
                }
                ViewMediator m = new ViewMediator();
                m.allow(0, patterns);
                m.allow(1, 1);
                int a = (known & 1) != 0 ? 16 : 18;
                int b = (known & 2) != 0 ? 17 : 19;
                Setups.rule(m, 0, 1, 16, 17, 0, a, b);
                Setups.query(m, 0, 16, 17);
                m.run();
                int last = m.atomAt(0, 0) / 4096 == 0 ? 0 : 1;
                checks.due("patterns " + patterns + " with " + known + " known", m.patternAt(0, last), due);
            }
        }
    }

    // ORDER: "The disjunct is BLOCKED if atoms are left that can't be put in order."

    private static void blockedKeepsTheListsOrder() {
        ViewMediator m = new ViewMediator();
        Setups.rule(m, 0, 0, 16, 18, 1, 18, 17);
        Setups.rule(m, 1, 2, 16, 18, 3, 18, 17);
        Setups.query(m, 0, 16, 17, 1, 17, 18, 0, 18, 16);
        shapesDue("none in order", m, "0(16,22):-1 1(22,17):-1 2(17,26):-1 3(26,18):-1 0(18,30):-1 1(30,16):-1");
        m.allow(3, 1);
        shapesDue("one in order", m, "3(26,18):0 0(16,22):-1 1(22,17):-1 2(17,26):-1 0(18,30):-1 1(30,16):-1");
        m.allow(0, 2);
        shapesDue("two in order", m, "3(26,18):0 0(18,30):1 0(16,22):-1 1(22,17):-1 2(17,26):-1 1(30,16):-1");
        m.allow(1, 4);
        shapesDue("still two in order", m, "3(26,18):0 0(18,30):1 0(16,22):-1 1(22,17):-1 2(17,26):-1 1(30,16):-1");
        m.allow(1, 2);
        shapesDue("five in order", m, "3(26,18):0 0(18,30):1 1(30,16):1 0(16,22):1 1(22,17):1 2(17,26):-1");
        m.allow(2, 8);
        shapesDue("six in order", m, "3(26,18):0 0(18,30):1 1(30,16):1 0(16,22):1 1(22,17):1 2(17,26):3");
        checks.due("run", m.run(), 0);
        m.allow(3, 0);
        checks.due("none again", m.run(), ViewMediator.BLOCKED);
        shapesDue("none again", m, "0(16,22):-1 1(22,17):-1 2(17,26):-1 3(26,18):-1 0(18,30):-1 1(30,16):-1");
    }
}
