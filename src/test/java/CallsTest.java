/** Promises 11 to 13: call, came, recorded; and how calls are answered. */
public final class CallsTest {
    private static final int BAD = RehearsalDesk.BAD, FAR_BAD = -1001;
    private static final int MIN = Integer.MIN_VALUE, MAX = Integer.MAX_VALUE;
    private static final Check CHECK = new Check("CallsTest");

    public static void main(String[] args) {
        refusedCalls();
        refusedStandsOfAnyParameter();
        untaughtCalls();
        answersForWhatIsGiven();
        sumsGoRound();
        failures();
        lamps();
        lampsByRule();
        came();
        recorded();
        lostCalls();
        CHECK.end();
    }

    /**
     * Methods 0, 1, 2 take whole, stand, whole and give nothing, a whole, a stand; they may fail
     * with kinds 0 and 2. Stand 0 is plain, stand 1 watches thing 4.
     */
    private static RehearsalDesk desk() {
        RehearsalDesk x = new RehearsalDesk();
        x.face(-1);
        x.method(0, 3, 2, 0, 5);
        x.method(0, 3, 2, 1, 5);
        x.method(0, 3, 2, 2, 5);
        x.method(0, 1, 0, 1, 128);
        x.method(0, 3, 0, 1, 128);
        x.method(0, 0, 0, 1, 0);
        x.stand(0, -1);
        x.stand(0, 4);
        return x;
    }

    private static void refusedCalls() {
        RehearsalDesk x = desk();
        int[][] bad = {
            {2, 0, 0, 0, 0}, {-1, 0, 0, 0, 0}, {MIN, 0, 0, 0, 0}, {MAX, 0, 0, 0, 0},
            {0, 6, 0, 0, 0}, {0, -1, 0, 0, 0}, {0, MIN, 0, 0, 0}, {0, MAX, 0, 0, 0},
            {0, 0, 0, 2, 0}, {0, 0, 0, -2, 0}, {0, 0, 0, MIN, 0}, {1, 2, 0, MAX, 0},
        };
        for (int[] c : bad) {
            CHECK.due("bad call", x.call(c[0], c[1], c[2], c[3], c[4]), BAD);
        }
        CHECK.row("refused calls are none", Check.came(x), FAR_BAD, FAR_BAD, FAR_BAD, FAR_BAD);
        CHECK.due("nor recorded", x.count(3), 0);
        x.call(0, 1, 1, 0, 1);
        x.call(0, 1, 2, 9, 2);
        CHECK.row("a refused one changes nothing", Check.recorded(x, 0), 0, 1, 1, 0, 1, 3, -1, 0, -1);
        CHECK.due("what is beyond the parameters does not matter", x.call(1, 3, 5, 99, MIN), 0);
    }

    private static void refusedStandsOfAnyParameter() {
        RehearsalDesk x = new RehearsalDesk();
        x.face(-1);
        x.face(-1);
        x.method(1, 3, 7, 0, 0);
        x.method(1, 2, 1, 0, 0);
        x.stand(1, -1);
        CHECK.due("all are stands", x.call(0, 0, 0, 0, -1), 3);
        CHECK.due("the first is none's number", x.call(0, 0, 1, 0, 0), BAD);
        CHECK.due("the second is none's number", x.call(0, 0, 0, 1, 0), BAD);
        CHECK.due("the third is none's number", x.call(0, 0, 0, 0, 1), BAD);
        CHECK.due("only the first is a stand", x.call(0, 1, 0, 1, 1), 3);
        CHECK.due("which is none's number", x.call(0, 1, -2, 1, 1), BAD);
        CHECK.due("method -1 of a later face", x.call(0, -1, 0, 0, 0), BAD);
        CHECK.due("recorded", x.count(3), 2);
    }

    private static void untaughtCalls() {
        RehearsalDesk x = desk();
        CHECK.due("gives nothing", x.call(0, 0, 5, 1, 6), 3);
        CHECK.row("gives nothing", Check.came(x), 3, 0, -1, -1);
        CHECK.due("gives a whole", x.call(0, 1, 5, 1, 6), 3);
        CHECK.row("gives a whole", Check.came(x), 3, 0, -1, -1);
        CHECK.due("gives a stand", x.call(0, 2, 5, 1, 6), 3);
        CHECK.row("gives a stand", Check.came(x), 3, -1, -1, -1);
    }

    private static void answersForWhatIsGiven() {
        int[][] answers = {{0, 42}, {1, 1}, {1, -1}, {2, 2}, {3, 100}, {4, 0}, {4, 1}, {4, 2}, {5, 0}};
        int[][] gives = {
            {0, 0, 0, 0, 0, 0, 0, 0, 0},
            {42, 0, 0, 0, 111, 5, 0, 6, 0},
            {-1, 1, -1, -1, -1, -1, 0, -1, -1},
        };
        for (int method = 0; method < 3; method++) {
            for (int i = 0; i < answers.length; i++) {
                RehearsalDesk x = desk();
                x.rule(0, method);
                x.answer(0, answers[i][0], answers[i][1]);
                int how = answers[i][0] == 2 ? 1 : answers[i][0] == 5 ? 3 : 0;
                String name = "method " + method + ", answer " + answers[i][0] + ", " + answers[i][1];
                CHECK.due(name, x.call(0, method, 5, 0, 6), how);
                CHECK.row(name, Check.came(x), how, gives[method][i], how == 1 ? 2 : -1, 0);
            }
        }
        RehearsalDesk x = desk();
        x.rule(0, 2);
        x.answer(0, 4, 1);
        x.call(0, 2, 5, -1, 6);
        CHECK.row("a stand that came and is none", Check.came(x), 0, -1, -1, 0);
    }

    private static void sumsGoRound() {
        RehearsalDesk x = desk();
        x.rule(0, 1);
        x.answer(0, 3, MAX);
        x.call(0, 1, 1, 1, 0);
        CHECK.due("going round", x.came(1), MIN);
        x.call(0, 1, MAX, 1, 2);
        CHECK.due("stands do not count", x.came(1), MAX + MAX + 2);
        x.rule(0, 4);
        x.answer(1, 3, 1);
        x.call(0, 4, 10, 100, 1000);
        CHECK.due("all three wholes", x.came(1), 1111);
        x.rule(0, 3);
        x.answer(2, 3, 1);
        x.call(0, 3, 10, 100, 1000);
        CHECK.due("only what is a parameter", x.came(1), 11);
    }

    private static void failures() {
        for (int kind = 0; kind < 8; kind++) {
            RehearsalDesk x = desk();
            boolean may = kind == 0 || kind == 2;
            for (int method = 0; method < 3; method++) {
                x.rule(0, method);
                x.answer(method, 2, kind);
                CHECK.due("fails with " + kind, x.call(0, method, 0, -1, 0), may ? 1 : 2);
                CHECK.row("fails with " + kind, Check.came(x), may ? 1 : 2, method == 2 ? -1 : 0, may ? kind : 8, method);
            }
        }
    }

    private static void lamps() {
        RehearsalDesk x = desk();
        CHECK.due("through", x.call(1, 1, 100, 1, 50), 0);
        CHECK.row("gives the level", Check.came(x), 0, 150, -1, -1);
        CHECK.due("through, stands do not count", x.call(1, 0, 100, 1, 5), 0);
        CHECK.row("gives nothing", Check.came(x), 0, 0, -1, -1);
        CHECK.due("level 255", x.level(4), 255);
        CHECK.due("above 255, undeclared", x.call(1, 1, 1, 1, 0), 2);
        CHECK.row("above 255, undeclared", Check.came(x), 2, 0, 8, -1);
        CHECK.due("above 255, declared", x.call(1, 3, 1, 0, 0), 1);
        CHECK.row("above 255, declared", Check.came(x), 1, 0, 7, -1);
        CHECK.due("stays", x.level(4), 255);
        CHECK.due("gives no stand", x.call(1, 2, -200, 1, -55), 0);
        CHECK.row("gives no stand", Check.came(x), 0, -1, -1, -1);
        CHECK.due("level 0", x.level(4), 0);
        CHECK.due("below 0", x.call(1, 2, 0, -1, -1), 2);
        CHECK.row("below 0", Check.came(x), 2, -1, 8, -1);
        CHECK.due("stays", x.level(4), 0);
        CHECK.due("going round", x.call(1, 4, MAX, MAX, 7), 0);
        CHECK.row("going round", Check.came(x), 0, 5, -1, -1);
        CHECK.due("what is beyond does not count", x.call(1, 3, 5, 100, 100), 0);
        CHECK.due("level", x.level(4), 10);
        CHECK.due("other things stay", x.level(0), 0);
    }

    private static void lampsByRule() {
        RehearsalDesk x = desk();
        x.rule(1, 1);
        x.answer(0, 0, 42);
        x.answer(0, 5, 99);
        CHECK.due("by the rule, not through", x.call(1, 1, 10, -1, 0), 0);
        CHECK.row("by the rule, not through", Check.came(x), 0, 42, -1, 0);
        CHECK.due("level stays", x.level(4), 0);
        CHECK.due("through by the rule", x.call(1, 1, 10, -1, 0), 0);
        CHECK.row("through by the rule", Check.came(x), 0, 10, -1, 0);
        CHECK.due("undeclared by the rule", x.call(1, 1, 246, -1, 0), 2);
        CHECK.row("undeclared by the rule", Check.came(x), 2, 0, 8, 0);
        x.on(0, 0, 1, 77, 0);
        CHECK.due("no rule, through", x.call(1, 1, 11, -1, 0), 0);
        CHECK.row("no rule, through", Check.came(x), 0, 21, -1, -1);
    }

    private static void came() {
        RehearsalDesk x = desk();
        CHECK.due("none yet", x.came(0), FAR_BAD);
        x.call(0, 0, 0, 0, 0);
        CHECK.due("came(-1)", x.came(-1), FAR_BAD);
        CHECK.due("came(4)", x.came(4), FAR_BAD);
        CHECK.due("came(MIN)", x.came(MIN), FAR_BAD);
        CHECK.due("came(MAX)", x.came(MAX), FAR_BAD);
        x.cue(2, 0, 1, 0);
        x.cue(0, 0, 33, 0);
        x.cue(3, 0, 3, 0);
        x.run(10);
        CHECK.row("of a run", Check.came(x), 0, 33, -1, -1);
        x.clear();
        x.cue(3, 0, 3, 0);
        CHECK.due("a call of none", x.run(10), 10);
        CHECK.row("is no call of a stand", Check.came(x), 0, 33, -1, -1);
    }

    private static void recorded() {
        RehearsalDesk x = desk();
        x.rule(0, 2);
        x.answer(0, 4, 1);
        x.answer(0, 2, 1);
        x.call(0, 2, 7, 1, 8);
        x.call(0, 2, 7, -1, 8);
        x.call(1, 3, 9, 8, 7);
        x.call(0, 0, MIN, 0, MAX);
        x.call(1, 3, 300, 0, 0);
        CHECK.row("call 0", Check.recorded(x, 0), 0, 2, 7, 1, 8, 0, 0, 1, -1);
        CHECK.row("call 1", Check.recorded(x, 1), 0, 2, 7, -1, 8, 2, 0, -1, 8);
        CHECK.row("call 2", Check.recorded(x, 2), 1, 3, 9, 0, 0, 0, -1, 9, -1);
        CHECK.row("call 3", Check.recorded(x, 3), 0, 0, MIN, 0, MAX, 3, -1, 0, -1);
        CHECK.row("call 4", Check.recorded(x, 4), 1, 3, 300, 0, 0, 1, -1, 0, 7);
        x.call(1, 5, 6, 7, 8);
        CHECK.row("call 5, without parameters", Check.recorded(x, 5), 1, 5, 0, 0, 0, 0, -1, 9, -1);
        CHECK.due("recorded(6, 0)", x.recorded(6, 0), FAR_BAD);
        CHECK.due("recorded(-1, 0)", x.recorded(-1, 0), FAR_BAD);
        CHECK.due("recorded(0, 9)", x.recorded(0, 9), FAR_BAD);
        CHECK.due("recorded(0, -1)", x.recorded(0, -1), FAR_BAD);
        CHECK.due("recorded(MAX, MAX)", x.recorded(MAX, MAX), FAR_BAD);
        CHECK.due("recorded(MIN, MIN)", x.recorded(MIN, MIN), FAR_BAD);
    }

    private static void lostCalls() {
        RehearsalDesk x = desk();
        x.rule(0, 1);
        x.on(0, 0, 6, 0, 0);
        x.answer(0, 0, 1);
        x.cue(2, 0, 0, 0);
        x.cue(3, 0, 1, 0);
        x.cue(4, 1, 0, 0);
        x.run(998);
        CHECK.due("recorded by a run", x.count(3), 499);
        CHECK.due("none lost", x.count(4), 0);
        x.call(0, 1, 71, 0, 0);
        CHECK.due("recorded", x.count(3), 500);
        CHECK.due("none lost", x.count(4), 0);
        x.answer(0, 0, 2);
        CHECK.due("a lost one is answered", x.call(0, 1, 72, 0, 0), 0);
        CHECK.row("a lost one came", Check.came(x), 0, 2, -1, 0);
        CHECK.due("a lost one is caught", x.caught(0, 0), 72);
        CHECK.due("not recorded", x.count(3), 500);
        CHECK.due("lost", x.count(4), 1);
        CHECK.due("the last recorded", x.recorded(499, 2), 71);
        CHECK.due("none behind it", x.recorded(500, 2), FAR_BAD);
        CHECK.due("a lost one through", x.call(1, 3, 5, 0, 0), 0);
        CHECK.due("a lost one through", x.level(4), 5);
        CHECK.due("lost", x.count(4), 2);
        CHECK.due("forget", x.forget(), 500);
        CHECK.due("none lost", x.count(4), 0);
        x.call(0, 1, 73, 0, 0);
        CHECK.due("recorded anew", x.recorded(0, 2), 73);
        CHECK.due("recorded anew", x.count(3), 1);
    }
}
