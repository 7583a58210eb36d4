/** The sentences of how an object is used, of part 2 of the terms about calls, and of promises 11 to 13, one test each. */
public final class CallsEdgesTest {
    private static final int BAD = RehearsalDesk.BAD, FAR_BAD = -1001;
    private static final int HOLD = 2, CALL = 3, GO = 4;
    private static final int MIN = Check.MIN, MAX = Check.MAX;
    private static final Check CHECK = new Check("CallsEdgesTest");

    public static void main(String[] args) throws ReflectiveOperationException {
        Edges.run(CHECK, CallsEdgesTest.class);
    }

    /**
     * Methods 0, 1, 2 take whole, stand, whole and give nothing, a whole, a stand, and may fail with kind 0 and 7;
     * method 3 takes three stands, method 4 takes nothing. Stand 0 is plain, 1 watches thing 0.
     */
    private static RehearsalDesk desk() {
        RehearsalDesk x = new RehearsalDesk();
        x.face(-1);
        for (int gives = 0; gives <= 2; gives++) {
            x.method(0, 3, 2, gives, 129);
        }
        x.method(0, 3, 7, 2, 0);
        x.method(0, 0, 0, 1, 0);
        x.stand(0, -1);
        x.stand(0, 0);
        return x;
    }

    /** Records 499 calls of a stand's method by a run, so that one more place is there. */
    private static void recordAllButOne(RehearsalDesk x, int stand, int method) {
        CHECK.retell(x, Check.c(HOLD, 0, stand), Check.c(CALL, 0, method), Check.c(GO, 1));
        CHECK.due("a run of 499 calls", x.run(999), RehearsalDesk.SPENT);
        CHECK.due("recorded", x.count(3), 499);
        CHECK.due("lost", x.count(4), 0);
    }

    // ---- what it is

    @Edges.Says(in = "What it is",
            words = "An object is used for at most 512 calls after it has been made; what later calls answer is free.")
    static void callsOfAnObject() {
        RehearsalDesk x = new RehearsalDesk();
        x.face(-1);
        x.method(0, 3, 0, 1, 0);
        x.stand(0, -1);
        x.rule(0, 0);
        x.answer(0, 4, 0);
        for (int i = 6; i <= 510; i++) {
            CHECK.due("call " + i, x.call(0, 0, i, 0, 0), 0);
        }
        CHECK.due("call 511 of it", x.came(1), 510);
        CHECK.due("call 512 of it", x.count(4), 5);
        for (int i = 0; i < 2000; i++) {
            x.call(0, 0, i, 0, 0);
            x.rule(0, 0);
            x.cue(i % 10, 1, 1, 1);
            x.run(1000);
            x.verify();
        }
        CHECK.holds("later ones end and do not throw", true);
    }

    // ---- terms

    @Edges.Says(in = "Terms 2",
            words = "A CALL of a METHOD of a STAND with what comes for PARAMETERS (a STAND or none for those):")
    static void whatComes() {
        RehearsalDesk x = desk();
        CHECK.due("stands and none", x.call(0, 3, 0, -1, 1), 3);
        CHECK.row("come so", Check.recorded(x, 0), 0, 3, 0, -1, 1, 3, -1, -1, -1);
        CHECK.due("none at all", x.call(0, 3, -1, -1, -1), 3);
        CHECK.row("come so", Check.recorded(x, 1), 0, 3, -1, -1, -1, 3, -1, -1, -1);
        CHECK.due("a stand may come to itself", x.call(1, 1, 0, 1, 0), 0);
        CHECK.due("it does", x.recorded(2, 3), 1);
    }

    @Edges.Says(in = "Terms 2",
            words = "it is RECORDED (500 at most: with 500 it is LOST, counted, all else is as ever).")
    static void fiveHundred() {
        RehearsalDesk x = desk();
        x.rule(0, 1);
        x.on(0, 0, 6, 0, 0);
        recordAllButOne(x, 0, 4);
        for (int i = 0; i < 4; i++) {
            x.answer(0, i == 2 ? 2 : 0, i == 2 ? 0 : 10 + i);
        }
        CHECK.due("the five hundredth", x.call(0, 1, 70, -1, 0), 0);
        CHECK.due("recorded", x.count(3), 500);
        CHECK.due("none lost", x.count(4), 0);
        CHECK.row("the last place", Check.recorded(x, 499), 0, 1, 70, -1, 0, 0, 0, 10, -1);
        CHECK.due("one more is lost", x.call(0, 1, 71, -1, 0), 0);
        CHECK.due("counted", x.count(4), 1);
        CHECK.due("not recorded", x.count(3), 500);
        CHECK.row("answered in turn", Check.came(x), 0, 11, -1, 0);
        CHECK.due("caught", x.caught(0, 0), 71);
        CHECK.due("one that fails is lost", x.call(0, 1, 72, -1, 0), 1);
        CHECK.row("it fails in turn", Check.came(x), 1, 0, 0, 0);
        CHECK.due("one through is lost", x.call(1, 1, 73, -1, 0), 0);
        CHECK.due("its level", x.level(0), 73);
        CHECK.due("counted", x.count(4), 3);
        CHECK.retell(x, Check.c(HOLD, 0, 0), Check.c(CALL, 0, 1));
        CHECK.due("one of a run is lost", x.run(9), 0);
        CHECK.due("it gives", x.desk(7), 13);
        CHECK.due("counted", x.count(4), 4);
        CHECK.row("the last place stays", Check.recorded(x, 499), 0, 1, 70, -1, 0, 0, 0, 10, -1);
        CHECK.due("there is none behind it", x.recorded(500, 0), FAR_BAD);
        CHECK.due("a refused one is not lost", x.call(0, 1, 71, 2, 0), BAD);
        CHECK.due("counted", x.count(4), 4);
    }

    @Edges.Says(in = "Terms 2", words = "THE RULE is the latest that came, of that STAND and METHOD, "
            + "all CONDITIONS of which hold and which has ANSWERS;")
    static void theRule() {
        RehearsalDesk x = desk();
        for (int i = 0; i < 4; i++) {
            x.rule(0, 1);
        }
        x.rule(1, 1);
        x.rule(0, 2);
        x.answer(4, 0, 4);
        x.answer(5, 0, 5);
        x.call(0, 1, 0, -1, 0);
        CHECK.row("none has answers", Check.came(x), 3, 0, -1, -1);
        x.answer(2, 0, 12);
        x.answer(0, 0, 10);
        x.call(0, 1, 0, -1, 0);
        CHECK.row("the latest that came, not that was taught", Check.came(x), 0, 12, -1, 2);
        x.answer(3, 0, 13);
        x.call(0, 1, 0, -1, 0);
        CHECK.row("the latest of all", Check.came(x), 0, 13, -1, 3);
        x.on(3, 0, 1, 7, 0);
        x.on(2, 2, 1, 7, 0);
        x.call(0, 1, 0, -1, 0);
        CHECK.row("the first, where no later one holds", Check.came(x), 0, 10, -1, 0);
        x.call(0, 1, 0, -1, 7);
        CHECK.row("the third, where the fourth does not hold", Check.came(x), 0, 12, -1, 2);
        x.on(0, 1, 1, 1, 0);
        x.call(0, 1, 0, -1, 0);
        CHECK.row("none holds", Check.came(x), 3, 0, -1, -1);
    }

    @Edges.Says(in = "Terms 2",
            words = "the k-th CALL by a RULE is answered by its ANSWER k (from 0 on; behind the last one by that).")
    static void answersInTurn() {
        for (int size = 1; size <= 6; size++) {
            RehearsalDesk x = desk();
            x.rule(0, 1);
            x.on(0, 0, 1, 7, 0);
            for (int i = 0; i < size; i++) {
                x.answer(0, 0, 20 + i);
            }
            for (int k = 0; k < 10; k++) {
                x.call(0, 1, 7, -1, 0);
                CHECK.due("call " + k + " of " + size + " answers", x.came(1), 20 + Math.min(k, size - 1));
                x.call(0, 1, 8, -1, 0);
                CHECK.due("one that is not by it does not count", x.came(3), -1);
            }
        }
        RehearsalDesk x = desk();
        x.rule(0, 1);
        x.answer(0, 0, 20);
        for (int k = 0; k < 5; k++) {
            x.call(0, 1, 0, -1, 0);
        }
        for (int i = 1; i <= 5; i++) {
            x.answer(0, 0, 20 + i);
        }
        x.call(0, 1, 0, -1, 0);
        CHECK.due("call 5 by answer 5, taught later", x.came(1), 25);
    }

    @Edges.Says(in = "Terms 2",
            words = "Without a RULE it is THROUGH, if it WATCHES; else UNTAUGHT: it gives 0, or no STAND.")
    static void withoutARule() {
        int[] nothing = {0, 0, -1};
        int[] level = {0, 10, -1};
        for (int method = 0; method <= 2; method++) {
            RehearsalDesk x = desk();
            CHECK.due("plain", x.call(0, method, 9, 1, 1), 3);
            CHECK.row("untaught", Check.came(x), 3, nothing[method], -1, -1);
            CHECK.due("watching", x.call(1, method, 9, 1, 1), 0);
            CHECK.row("through", Check.came(x), 0, level[method], -1, -1);
            CHECK.due("its level", x.level(0), 10);
            x.rule(1, method);
            CHECK.due("a rule without answers is none", x.call(1, method, 1, 1, 0), 0);
            CHECK.due("through", x.level(0), 11);
        }
    }

    @Edges.Says(in = "Terms 2",
            words = "What the METHOD GIVES counts: what is no WHOLE (STAND) for one that gives such is 0 (none);")
    static void whatIsGiven() {
        int[][] answers = {{0, 42}, {1, 1}, {1, -1}, {3, 100}, {4, 0}, {4, 1}};
        int[] wholes = {42, 0, 0, 111, 5, 0};
        int[] stands = {-1, 1, -1, -1, -1, 0};
        for (int i = 0; i < answers.length; i++) {
            RehearsalDesk x = desk();
            x.rule(0, 1);
            x.rule(0, 2);
            x.answer(0, answers[i][0], answers[i][1]);
            x.answer(1, answers[i][0], answers[i][1]);
            CHECK.due("answered", x.call(0, 1, 5, 0, 6), 0);
            CHECK.due("a whole by answer " + answers[i][0] + ", " + answers[i][1], x.came(1), wholes[i]);
            CHECK.due("answered", x.call(0, 2, 5, 0, 6), 0);
            CHECK.due("a stand by answer " + answers[i][0] + ", " + answers[i][1], x.came(1), stands[i]);
        }
    }

    @Edges.Says(in = "Terms 2", words = "nothing is given by one that gives nothing.")
    static void nothingIsGiven() {
        for (int[] answer : new int[][] {{0, 42}, {1, 1}, {3, 100}, {4, 0}, {4, 1}, {5, 0}}) {
            RehearsalDesk x = desk();
            x.rule(1, 0);
            x.answer(0, answer[0], answer[1]);
            CHECK.due("answered", x.call(1, 0, 5, 1, 6), 0);
            CHECK.due("nothing by answer " + answer[0], x.came(1), 0);
            CHECK.due("nor recorded", x.recorded(0, 7), 0);
            CHECK.retell(x, Check.c(0, 7, 77), Check.c(HOLD, 3, 1), Check.c(CALL, 3, 0));
            CHECK.due("run", x.run(9), 0);
            CHECK.due("whole 7 stays", x.desk(7), 77);
            CHECK.due("stand 3 stays", x.desk(11), 1);
        }
    }

    @Edges.Says(in = "Terms 2", words = "A FAILURE that the METHOD may not FAIL with is KIND 8, UNDECLARED.")
    static void undeclared() {
        for (int kind = 0; kind <= 7; kind++) {
            RehearsalDesk x = new RehearsalDesk();
            x.face(-1);
            x.method(0, 1, 0, 1, 255 - (1 << kind));
            x.method(0, 1, 0, 1, 255);
            x.stand(0, 0);
            for (int method = 0; method <= 1; method++) {
                x.rule(0, method);
                x.answer(method, 2, kind);
                int how = method == 0 ? 2 : 1;
                CHECK.due("kind " + kind + " of method " + method, x.call(0, method, 0, 0, 0), how);
                CHECK.row("kind " + kind, Check.came(x), how, 0, method == 0 ? 8 : kind, method);
            }
        }
        RehearsalDesk y = new RehearsalDesk();
        y.face(-1);
        y.method(0, 1, 0, 1, 127);
        y.stand(0, 0);
        CHECK.due("a lamp's failure that it may not have", y.call(0, 0, 256, 0, 0), 2);
        CHECK.due("its kind", y.came(2), 8);
        CHECK.retell(y, Check.c(HOLD, 0, 0), Check.c(0, 0, 256), Check.c(CALL, 0, 0));
        CHECK.due("by a run", y.run(9), 9);
    }

    @Edges.Says(in = "Terms 2", words = "HOW a CALL went: 0 answered, 1 it FAILED, 2 UNDECLARED, 3 UNTAUGHT.")
    static void how() {
        RehearsalDesk x = desk();
        x.rule(0, 1);
        x.answer(0, 0, 1);
        x.answer(0, 2, 0);
        x.answer(0, 2, 1);
        x.answer(0, 5, 0);
        for (int how = 0; how <= 3; how++) {
            CHECK.due("call", x.call(0, 1, 0, -1, 0), how);
            CHECK.due("came", x.came(0), how);
            CHECK.due("recorded", x.recorded(how, 5), how);
        }
    }

    // ---- promise 11

    @Edges.Says(in = "Promise 11", words = "A CALL from outside with x, y, z for PARAMETERS "
            + "(STANDS by their numbers, -1: none; others do not matter): HOW it went.")
    static void othersDoNotMatter() {
        RehearsalDesk x = desk();
        for (int odd : new int[] {MIN, -2, 2, 24, MAX}) {
            CHECK.due("all beyond a method without parameters", x.call(1, 4, odd, odd, odd), 0);
        }
        CHECK.row("nothing came", Check.recorded(x, 4), 1, 4, 0, 0, 0, 0, -1, 0, -1);
        CHECK.due("the level stays", x.level(0), 0);
        for (int n = 1; n <= 2; n++) {
            RehearsalDesk y = new RehearsalDesk();
            y.face(-1);
            y.method(0, n, (1 << n) - 1, 0, 0);
            y.stand(0, -1);
            CHECK.due("those behind " + n + " stands", y.call(0, 0, 0, n == 2 ? -1 : MAX, MIN), 3);
            CHECK.row("come as 0", Check.recorded(y, 0), 0, 0, 0, n == 2 ? -1 : 0, 0, 3, -1, 0, -1);
        }
    }

    @Edges.Says(in = "Promise 11", words = "BAD: also what is no STAND's number.")
    static void callBad() {
        RehearsalDesk x = desk();
        for (int stand : Check.beyond(0, 1)) {
            CHECK.due("stand " + stand, x.call(stand, 4, 0, 0, 0), BAD);
        }
        for (int method : Check.beyond(0, 4)) {
            CHECK.due("method " + method, x.call(0, method, 0, 0, 0), BAD);
        }
        for (int number : Check.beyond(-1, 1)) {
            CHECK.due("first " + number, x.call(0, 3, number, 0, 0), BAD);
            CHECK.due("second " + number, x.call(0, 3, 0, number, 0), BAD);
            CHECK.due("third " + number, x.call(0, 3, 0, 0, number), BAD);
            CHECK.due("between wholes " + number, x.call(0, 1, 0, number, 0), BAD);
        }
        CHECK.due("none is recorded", x.count(3), 0);
        CHECK.due("none came", x.came(0), FAR_BAD);
    }

    // ---- promise 12

    @Edges.Says(in = "Promise 12", words = "Of the latest CALL (also of a RUN): 0 HOW it went,")
    static void cameHow() {
        RehearsalDesk x = desk();
        x.call(0, 1, 0, -1, 0);
        CHECK.due("untaught", x.came(0), 3);
        CHECK.retell(x, Check.c(HOLD, 0, 1), Check.c(CALL, 0, 1));
        x.run(9);
        CHECK.due("of a run: answered", x.came(0), 0);
        CHECK.retell(x, Check.c(HOLD, 0, 1), Check.c(0, 0, 256), Check.c(CALL, 0, 1));
        x.run(9);
        CHECK.due("of a run: failed", x.came(0), 1);
        x.call(0, 4, 0, 0, 0);
        CHECK.due("untaught again", x.came(0), 3);
        CHECK.retell(x, Check.c(CALL, 0, 1));
        CHECK.due("a cue's call of none", x.run(9), 10);
        CHECK.due("is no call", x.came(0), 3);
    }

    @Edges.Says(in = "Promise 12", words = "1 what it gave (a STAND's number, -1: none),")
    static void cameGave() {
        RehearsalDesk x = desk();
        x.rule(0, 2);
        x.rule(0, 1);
        x.answer(0, 1, 1);
        x.answer(0, 1, 0);
        x.answer(0, 1, -1);
        x.answer(1, 0, MIN);
        x.answer(1, 0, MAX);
        for (int stand : new int[] {1, 0, -1}) {
            x.call(0, 2, 0, 1, 0);
            CHECK.due("a stand", x.came(1), stand);
        }
        for (int whole : new int[] {MIN, MAX}) {
            x.call(0, 1, 0, 1, 0);
            CHECK.due("a whole", x.came(1), whole);
        }
        x.call(0, 0, 0, 1, 0);
        CHECK.due("nothing", x.came(1), 0);
    }

    @Edges.Says(in = "Promise 12", words = "2 the KIND that it FAILED with (-1: it did not), 3 THE RULE (-1: none).")
    static void cameKindAndRule() {
        RehearsalDesk x = desk();
        x.call(0, 1, 0, -1, 0);
        CHECK.row("neither", new int[] {x.came(2), x.came(3)}, -1, -1);
        x.rule(0, 1);
        x.answer(0, 2, 0);
        x.answer(0, 0, 1);
        x.call(0, 1, 0, -1, 0);
        CHECK.row("kind 0, rule 0", new int[] {x.came(2), x.came(3)}, 0, 0);
        x.call(0, 1, 0, -1, 0);
        CHECK.row("no kind, rule 0", new int[] {x.came(2), x.came(3)}, -1, 0);
        x.call(1, 1, 256, -1, 0);
        CHECK.row("kind 7, no rule", new int[] {x.came(2), x.came(3)}, 7, -1);
    }

    @Edges.Says(in = "Promise 12", words = "BAD: also none yet. (BAD less 1000, -1001.)")
    static void cameBad() {
        RehearsalDesk x = desk();
        for (int what = 0; what <= 3; what++) {
            CHECK.due("none yet", x.came(what), FAR_BAD);
        }
        x.call(0, 9, 0, 0, 0);
        CHECK.due("a refused one is none", x.came(0), FAR_BAD);
        CHECK.retell(x, Check.c(CALL, 0, 0));
        x.run(9);
        CHECK.due("a cue's call of none is none", x.came(0), FAR_BAD);
        x.call(0, 0, 0, 0, 0);
        for (int what : Check.beyond(0, 3)) {
            CHECK.due("came(" + what + ")", x.came(what), FAR_BAD);
        }
        CHECK.due("came(3)", x.came(3), -1);
    }

    // ---- promise 13

    @Edges.Says(in = "Promise 13", words = "Of RECORDED CALL i: 0 STAND, 1 METHOD,")
    static void recordedOf() {
        RehearsalDesk x = desk();
        for (int stand = 0; stand <= 1; stand++) {
            for (int method = 0; method <= 4; method++) {
                x.call(stand, method, 0, 0, 0);
            }
        }
        for (int i = 0; i < 10; i++) {
            CHECK.due("stand of call " + i, x.recorded(i, 0), i / 5);
            CHECK.due("method of call " + i, x.recorded(i, 1), i % 5);
        }
    }

    @Edges.Says(in = "Promise 13", words = "2 .. 4 what came (0 beyond its PARAMETERS),")
    static void recordedCame() {
        RehearsalDesk x = new RehearsalDesk();
        x.face(-1);
        for (int n = 0; n <= 3; n++) {
            x.method(0, n, 0, 0, 0);
        }
        x.stand(0, -1);
        int[] came = {MIN, 8, MAX};
        for (int n = 3; n >= 0; n--) {
            x.call(0, n, came[0], came[1], came[2]);
            for (int i = 0; i < 3; i++) {
                CHECK.due(i + " of " + n, x.recorded(3 - n, 2 + i), i < n ? came[i] : 0);
            }
        }
    }

    @Edges.Says(in = "Promise 13", words = "5 HOW, 6 THE RULE (-1),")
    static void recordedHowAndRule() {
        RehearsalDesk x = desk();
        x.rule(0, 1);
        x.rule(0, 1);
        x.on(1, 0, 1, 5, 0);
        x.call(0, 1, 5, -1, 0);
        x.answer(0, 0, 1);
        x.answer(1, 2, 1);
        x.call(0, 1, 4, -1, 0);
        x.call(0, 1, 5, -1, 0);
        int[][] due = {{3, -1}, {0, 0}, {2, 1}};
        for (int i = 0; i < 3; i++) {
            CHECK.row("call " + i, new int[] {x.recorded(i, 5), x.recorded(i, 6)}, due[i]);
        }
    }

    @Edges.Says(in = "Promise 13",
            words = "7 what it gave (0, of one that gives a STAND -1 where nothing was), 8 KIND (-1).")
    static void recordedGave() {
        int[] nothing = {0, 0, -1};
        int[] given = {0, 0, 1};
        for (int method = 0; method <= 2; method++) {
            RehearsalDesk x = desk();
            x.call(0, method, 0, -1, 0);
            x.rule(0, method);
            x.answer(0, 1, 1);
            x.answer(0, 2, 0);
            x.answer(0, 2, 6);
            for (int i = 0; i < 3; i++) {
                x.call(0, method, 0, -1, 0);
            }
            CHECK.row("untaught", new int[] {x.recorded(0, 7), x.recorded(0, 8)}, nothing[method], -1);
            CHECK.row("a stand", new int[] {x.recorded(1, 7), x.recorded(1, 8)}, given[method], -1);
            CHECK.row("failed", new int[] {x.recorded(2, 7), x.recorded(2, 8)}, nothing[method], 0);
            CHECK.row("undeclared", new int[] {x.recorded(3, 7), x.recorded(3, 8)}, nothing[method], 8);
        }
    }

    @Edges.Says(in = "Promise 13", words = "BAD less 1000 (-1001).")
    static void recordedBad() {
        RehearsalDesk x = desk();
        CHECK.due("nothing recorded yet", x.recorded(0, 0), FAR_BAD);
        x.call(0, 1, 0, -1, 0);
        x.call(0, 1, 0, -1, 0);
        for (int i : Check.beyond(0, 1)) {
            CHECK.due("call " + i, x.recorded(i, 0), FAR_BAD);
        }
        for (int what : Check.beyond(0, 8)) {
            CHECK.due("what " + what, x.recorded(0, what), FAR_BAD);
        }
        CHECK.due("the last of the last", x.recorded(1, 8), -1);
        recordMore(x);
    }

    private static void recordMore(RehearsalDesk x) {
        x.forget();
        CHECK.due("nothing recorded any more", x.recorded(0, 0), FAR_BAD);
        recordAllButOne(x, 0, 4);
        CHECK.due("the last of 499", x.recorded(498, 1), 4);
        CHECK.due("behind it", x.recorded(499, 1), FAR_BAD);
    }
}
