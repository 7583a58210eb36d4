/** Promises 7 to 10: rule, on, answer, caught. */
public final class RulesTest {
    private static final int BAD = RehearsalDesk.BAD, FULL = RehearsalDesk.FULL;
    private static final int FAR_BAD = -1001, FAR_NOT = -1002;
    private static final int MIN = Integer.MIN_VALUE, MAX = Integer.MAX_VALUE;
    private static final Check CHECK = new Check("RulesTest");

    public static void main(String[] args) {
        rules();
        refusedConditions();
        takenConditions();
        refusedConditionStays();
        wholeConditions();
        standConditions();
        allConditionsHold();
        latestRuleWithAnswers();
        answers();
        answersInTurn();
        answersTaughtLater();
        caught();
        caughtIsGone();
        CHECK.end();
    }

    /** Face 0: method 0 takes whole, stand, whole and gives a whole; 1 takes a stand and gives one. */
    private static RehearsalDesk desk() {
        RehearsalDesk x = new RehearsalDesk();
        x.face(-1);
        x.method(0, 3, 2, 1, 255);
        x.method(0, 1, 1, 2, 255);
        x.method(0, 0, 0, 0, 0);
        x.face(0);
        x.method(1, 1, 0, 1, 0);
        x.stand(0, -1);
        x.stand(0, -1);
        x.stand(1, 0);
        return x;
    }

    private static void rules() {
        RehearsalDesk x = desk();
        CHECK.due("rule(0, 3)", x.rule(0, 3), BAD);
        CHECK.due("rule(0, -1)", x.rule(0, -1), BAD);
        CHECK.due("rule(3, 0)", x.rule(3, 0), BAD);
        CHECK.due("rule(-1, 0)", x.rule(-1, 0), BAD);
        CHECK.due("rule(2, -1)", x.rule(2, -1), BAD);
        CHECK.due("rule(2, 4)", x.rule(2, 4), BAD);
        CHECK.due("rule(MIN, MAX)", x.rule(MIN, MAX), BAD);
        CHECK.due("rule(0, MIN)", x.rule(0, MIN), BAD);
        CHECK.due("refused rules", x.count(2), 0);
        for (int i = 0; i < 80; i++) {
            CHECK.due("rule " + i, i % 2 == 0 ? x.rule(0, i % 3) : x.rule(2, 3), i);
        }
        CHECK.due("rule beyond 80", x.rule(0, 0), FULL);
        CHECK.due("BAD comes ahead of FULL", x.rule(0, 3), BAD);
        CHECK.due("rules", x.count(2), 80);
        CHECK.due("answer of rule 79", x.answer(79, 0, 5), 1);
        CHECK.due("answer of rule 80", x.answer(80, 0, 5), BAD);
        x.call(2, 3, 1, 0, 0);
        CHECK.row("rule 79 answers", Check.came(x), 0, 5, -1, 79);
    }

    private static void refusedConditions() {
        RehearsalDesk x = desk();
        CHECK.due("on no rule", x.on(0, 0, 0, 0, 0), BAD);
        x.rule(0, 0);
        x.rule(0, 2);
        int[][] bad = {
            {2, 0, 0, 0, 0}, {-1, 0, 0, 0, 0}, {MIN, 0, 0, 0, 0}, {MAX, 0, 0, 0, 0},
            {0, 3, 0, 0, 0}, {0, -1, 0, 0, 0}, {0, MIN, 0, 0, 0}, {0, MAX, 0, 0, 0}, {1, 0, 0, 0, 0},
            {0, 0, -1, 0, 0}, {0, 0, 7, 0, 0}, {0, 0, MIN, 0, 0}, {0, 0, MAX, 0, 0}, {0, 1, 7, 0, 0},
            {0, 1, 2, 0, 0}, {0, 0, 4, 0, 0}, {0, 2, 4, 0, 0}, {0, 0, 5, 0, 0}, {0, 2, 5, 0, 0},
            {0, 1, 1, 3, 0}, {0, 1, 1, -1, 0}, {0, 1, 1, MIN, 0}, {0, 1, 1, MAX, 0},
            {0, 1, 3, 3, 0}, {0, 1, 3, -1, 0}, {0, 1, 3, MAX, 0},
            {0, 1, 4, 2, 0}, {0, 1, 4, -1, 0}, {0, 1, 4, MIN, 0}, {0, 1, 4, MAX, 0},
        };
        for (int[] o : bad) {
            CHECK.due("bad on " + o[0] + " " + o[1] + " " + o[2] + " " + o[3],
                    x.on(o[0], o[1], o[2], o[3], o[4]), BAD);
        }
    }

    private static void takenConditions() {
        RehearsalDesk x = desk();
        x.rule(0, 0);
        for (int condition : new int[] {0, 1, 2, 3, 6}) {
            CHECK.due("on a whole " + condition, x.on(0, 0, condition, MIN, MAX), 1);
            CHECK.due("on the last whole " + condition, x.on(0, 2, condition, -1, -5), 1);
        }
        for (int condition : new int[] {0, 5, 6}) {
            CHECK.due("a does not matter to " + condition, x.on(0, 1, condition, 99, MIN), 1);
        }
        CHECK.due("equal to the last stand", x.on(0, 1, 1, 2, 99), 1);
        CHECK.due("not equal to the last stand", x.on(0, 1, 3, 2, 99), 1);
        CHECK.due("of the last face", x.on(0, 1, 4, 1, 99), 1);
        x.face(-1);
        CHECK.due("of a face that came since", x.on(0, 1, 4, 2, 0), 1);
        x.stand(2, -1);
        CHECK.due("equal to a stand that came since", x.on(0, 1, 1, 3, 0), 1);
    }

    private static void refusedConditionStays() {
        RehearsalDesk x = desk();
        x.rule(0, 0);
        x.answer(0, 0, 1);
        x.on(0, 0, 1, 5, 0);
        x.on(0, 0, 4, 0, 0);
        x.on(0, 0, 7, 6, 0);
        CHECK.due("still equal 5", x.call(0, 0, 5, -1, 0), 0);
        CHECK.due("still not 6", x.call(0, 0, 6, -1, 0), 3);
        x.on(0, 0, 6, 0, 0);
        x.call(0, 0, 9, -1, 0);
        x.on(0, 0, 5, 0, 0);
        CHECK.due("a refused one lets go of nothing", x.caught(0, 0), 9);
    }

    private static void holds(RehearsalDesk x, int i, int[] condition, int value, boolean is) {
        CHECK.due("condition taken", x.on(0, i, condition[0], condition[1], condition[2]), 1);
        int how = x.call(0, 0, i == 0 ? value : 0, i == 1 ? value : -1, i == 2 ? value : 0);
        CHECK.due("condition " + condition[0] + " of " + condition[1] + ", " + condition[2] + " with " + value
                + " for parameter " + i, how, is ? 0 : 3);
    }

    private static void wholeConditions() {
        for (int i = 0; i <= 2; i += 2) {
            RehearsalDesk x = desk();
            x.rule(0, 0);
            x.answer(0, 0, 1);
            holds(x, i, new int[] {0, 5, 5}, 77, true);
            holds(x, i, new int[] {1, 5, 9}, 5, true);
            holds(x, i, new int[] {1, 5, 9}, 6, false);
            holds(x, i, new int[] {1, -1, 0}, -1, true);
            holds(x, i, new int[] {2, 5, 9}, 4, false);
            holds(x, i, new int[] {2, 5, 9}, 5, true);
            holds(x, i, new int[] {2, 5, 9}, 7, true);
            holds(x, i, new int[] {2, 5, 9}, 9, true);
            holds(x, i, new int[] {2, 5, 9}, 10, false);
            holds(x, i, new int[] {2, 9, 5}, 7, false);
            holds(x, i, new int[] {2, MIN, MAX}, MIN, true);
            holds(x, i, new int[] {2, MIN, MAX}, MAX, true);
            holds(x, i, new int[] {3, 5, 9}, 5, false);
            holds(x, i, new int[] {3, 5, 9}, 6, true);
            holds(x, i, new int[] {6, 5, 9}, MIN, true);
        }
    }

    private static void standConditions() {
        RehearsalDesk x = desk();
        x.rule(0, 0);
        x.answer(0, 0, 1);
        holds(x, 1, new int[] {0, 0, 0}, 1, true);
        holds(x, 1, new int[] {0, 0, 0}, -1, true);
        holds(x, 1, new int[] {1, 1, 0}, 1, true);
        holds(x, 1, new int[] {1, 1, 0}, 2, false);
        holds(x, 1, new int[] {1, 0, 0}, -1, false);
        holds(x, 1, new int[] {3, 1, 0}, 1, false);
        holds(x, 1, new int[] {3, 1, 0}, 0, true);
        holds(x, 1, new int[] {3, 1, 0}, -1, true);
        holds(x, 1, new int[] {4, 0, 0}, 0, true);
        holds(x, 1, new int[] {4, 0, 0}, 2, true);
        holds(x, 1, new int[] {4, 1, 0}, 2, true);
        holds(x, 1, new int[] {4, 1, 0}, 0, false);
        holds(x, 1, new int[] {4, 0, 0}, -1, false);
        holds(x, 1, new int[] {5, 0, 0}, -1, true);
        holds(x, 1, new int[] {5, 0, 0}, 0, false);
        holds(x, 1, new int[] {6, 0, 0}, -1, true);
        holds(x, 1, new int[] {6, 0, 0}, 2, true);
    }

    private static void allConditionsHold() {
        RehearsalDesk x = desk();
        x.rule(0, 0);
        x.answer(0, 0, 1);
        x.on(0, 0, 1, 5, 0);
        x.on(0, 1, 1, 1, 0);
        x.on(0, 2, 3, 0, 0);
        CHECK.due("all hold", x.call(0, 0, 5, 1, 1), 0);
        CHECK.due("the first does not", x.call(0, 0, 4, 1, 1), 3);
        CHECK.due("the second does not", x.call(0, 0, 5, 0, 1), 3);
        CHECK.due("the third does not", x.call(0, 0, 5, 1, 0), 3);
        CHECK.due("another stand", x.call(1, 0, 5, 1, 1), 3);
        CHECK.due("another method", x.call(0, 1, 1, 0, 0), 3);
    }

    private static void latestRuleWithAnswers() {
        RehearsalDesk x = desk();
        x.rule(0, 0);
        x.answer(0, 0, 10);
        x.rule(0, 0);
        x.on(1, 0, 1, 5, 0);
        x.rule(0, 0);
        x.on(2, 0, 2, 5, 6);
        x.answer(2, 0, 12);
        x.rule(0, 0);
        x.call(0, 0, 5, -1, 0);
        CHECK.row("rules 1 and 3 have no answers", Check.came(x), 0, 12, -1, 2);
        x.answer(1, 0, 11);
        x.call(0, 0, 5, -1, 0);
        CHECK.row("the latest that came, not that was taught", Check.came(x), 0, 12, -1, 2);
        x.call(0, 0, 7, -1, 0);
        CHECK.row("behind those that do not hold", Check.came(x), 0, 10, -1, 0);
        x.answer(3, 0, 13);
        x.call(0, 0, 7, -1, 0);
        CHECK.row("rule 3 has one now", Check.came(x), 0, 13, -1, 3);
    }

    private static void answers() {
        RehearsalDesk x = desk();
        CHECK.due("answer of no rule", x.answer(0, 0, 0), BAD);
        x.rule(0, 0);
        x.rule(0, 2);
        int[][] bad = {
            {2, 0, 0}, {-1, 0, 0}, {MIN, 0, 0}, {MAX, 0, 0}, {0, -1, 0}, {0, 6, 0}, {0, MIN, 0}, {0, MAX, 0},
            {0, 1, 3}, {0, 1, -2}, {0, 1, MAX}, {0, 2, -1}, {0, 2, 8}, {0, 2, MIN},
            {0, 4, -1}, {0, 4, 3}, {0, 4, MAX}, {1, 4, 0},
        };
        for (int[] a : bad) {
            CHECK.due("bad answer " + a[1] + " " + a[2], x.answer(a[0], a[1], a[2]), BAD);
        }
        CHECK.due("refused answers are none", x.call(0, 0, 0, -1, 0), 3);
        CHECK.due("no rule then", x.came(3), -1);
        CHECK.due("answer 1", x.answer(0, 1, -1), 1);
        CHECK.due("answer 2", x.answer(0, 1, 2), 2);
        CHECK.due("answer 3", x.answer(0, 2, 0), 3);
        CHECK.due("answer 4", x.answer(0, 2, 7), 4);
        CHECK.due("answer 5", x.answer(0, 4, 2), 5);
        CHECK.due("answer 6", x.answer(0, 5, MIN), 6);
        CHECK.due("answer beyond 6", x.answer(0, 0, 0), FULL);
        CHECK.due("BAD comes ahead of FULL", x.answer(0, 6, 0), BAD);
        CHECK.due("another rule's first", x.answer(1, 3, MAX), 1);
    }

    private static void answersInTurn() {
        RehearsalDesk x = desk();
        x.rule(0, 0);
        x.rule(1, 0);
        for (int i = 0; i < 6; i++) {
            x.answer(0, 0, 10 + i);
            x.answer(1, 0, 20 + i);
        }
        for (int i = 0; i < 9; i++) {
            x.call(0, 0, 0, -1, 0);
            CHECK.row("call " + i + " by rule 0", Check.came(x), 0, 10 + Math.min(i, 5), -1, 0);
            if (i % 2 == 0) {
                x.call(1, 0, 0, -1, 0);
                CHECK.row("call " + i / 2 + " by rule 1", Check.came(x), 0, 20 + Math.min(i / 2, 5), -1, 1);
            }
        }
    }

    private static void answersTaughtLater() {
        RehearsalDesk x = desk();
        x.rule(0, 0);
        x.answer(0, 0, 10);
        for (int i = 0; i < 3; i++) {
            x.call(0, 0, 0, -1, 0);
            CHECK.due("behind the last one by that", x.came(1), 10);
        }
        for (int i = 1; i < 5; i++) {
            x.answer(0, 0, 10 + i);
        }
        x.call(0, 0, 0, -1, 0);
        CHECK.due("call 3 by answer 3", x.came(1), 13);
        x.call(0, 0, 0, -1, 0);
        CHECK.due("call 4 by answer 4", x.came(1), 14);
        x.call(0, 0, 0, -1, 0);
        x.answer(0, 0, 15);
        x.call(0, 0, 0, -1, 0);
        CHECK.due("call 6 by the last", x.came(1), 15);
    }

    private static void caught() {
        RehearsalDesk x = desk();
        CHECK.due("of no rule", x.caught(0, 0), FAR_BAD);
        x.rule(0, 0);
        CHECK.due("rule -1", x.caught(-1, 0), FAR_BAD);
        CHECK.due("rule 1", x.caught(1, 0), FAR_BAD);
        CHECK.due("parameter -1", x.caught(0, -1), FAR_BAD);
        CHECK.due("parameter 3", x.caught(0, 3), FAR_BAD);
        CHECK.due("parameter MIN", x.caught(MIN, MIN), FAR_BAD);
        CHECK.due("no such condition", x.caught(0, 0), FAR_NOT);
        x.on(0, 0, 6, 0, 0);
        x.on(0, 1, 6, 0, 0);
        CHECK.due("nothing came yet", x.caught(0, 0), FAR_NOT);
        x.call(0, 0, 4, 1, 5);
        CHECK.due("a call that is not by it", x.caught(0, 0), FAR_NOT);
        x.answer(0, 2, 3);
        x.call(0, 0, 7, -1, 8);
        CHECK.due("a whole, though it failed", x.caught(0, 0), 7);
        CHECK.due("no stand", x.caught(0, 1), -1);
        CHECK.due("not told to catch", x.caught(0, 2), FAR_NOT);
        x.call(0, 0, MIN, 2, 8);
        CHECK.due("the latest whole", x.caught(0, 0), MIN);
        CHECK.due("the latest stand", x.caught(0, 1), 2);
        x.rule(0, 0);
        x.on(1, 0, 1, 1, 0);
        x.answer(1, 0, 0);
        x.call(0, 0, 1, 0, 0);
        CHECK.due("a call by another rule", x.caught(0, 0), MIN);
    }

    private static void caughtIsGone() {
        RehearsalDesk x = desk();
        x.rule(0, 0);
        x.answer(0, 5, 0);
        x.on(0, 0, 6, 0, 0);
        x.on(0, 2, 6, 0, 0);
        x.call(0, 0, 7, -1, 8);
        CHECK.due("caught though untaught", x.caught(0, 0), 7);
        x.on(0, 0, 6, 0, 0);
        CHECK.due("gone, though told the same", x.caught(0, 0), FAR_NOT);
        CHECK.due("the other parameter's stays", x.caught(0, 2), 8);
        x.on(0, 2, 0, 0, 0);
        CHECK.due("no such condition any more", x.caught(0, 2), FAR_NOT);
        x.call(0, 0, 9, -1, 9);
        CHECK.due("caught again", x.caught(0, 0), 9);
        x.on(0, 2, 6, 0, 0);
        CHECK.due("nothing came since", x.caught(0, 2), FAR_NOT);
    }
}
