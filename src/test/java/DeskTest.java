/** Promises 21 to 25: cue, clear, run, desk, told. */
public final class DeskTest {
    private static final int BAD = RehearsalDesk.BAD, FULL = RehearsalDesk.FULL, SPENT = RehearsalDesk.SPENT;
    private static final int FAR_BAD = -1001;
    private static final int MIN = Integer.MIN_VALUE, MAX = Integer.MAX_VALUE;
    private static final int LET = 0, ADD = 1, HOLD = 2, CALL = 3, GO = 4, IF = 5, TRY = 6, FAIL = 7, SAME = 8, TELL = 9;
    private static final Check CHECK = new Check("DeskTest");

    public static void main(String[] args) {
        cuesAtTheEdges();
        cuesThatDoNotUseAll();
        cueListIsFull();
        clearing();
        wholes();
        holding();
        going();
        calls();
        callsThatFail();
        callsGive();
        uncaughtFailures();
        tries();
        triesAreOverWhenTaken();
        triesAreOverWhenLeft();
        triesOverlap();
        triesInTurns();
        tenTries();
        spent();
        refusedRuns();
        wornOut();
        deskOf();
        told();
        CHECK.end();
    }

    /** Stand 0 is plain, 1 watches thing 0, 2 is of a face without methods. */
    private static RehearsalDesk desk() {
        RehearsalDesk x = new RehearsalDesk();
        x.face(-1);
        x.method(0, 3, 2, 1, 255);
        x.method(0, 3, 5, 2, 255);
        x.method(0, 3, 0, 0, 0);
        x.face(-1);
        x.stand(0, -1);
        x.stand(0, 0);
        x.stand(1, -1);
        return x;
    }

    private static RehearsalDesk desk(int[]... cues) {
        return retell(desk(), cues);
    }

    private static RehearsalDesk retell(RehearsalDesk x, int[]... cues) {
        CHECK.retell(x, cues);
        return x;
    }

    private static int[] c(int... cue) {
        return cue;
    }

    private static void cuesAtTheEdges() {
        int[][] good = {{0, 0, 0}, {0, 0, 0}, {0, -1, 0}, {0, 0, 0}, {0, 0, 0}, {0, 0, 0}, {1, 0, 0}, {0, 0, 0}, {0, 0, 0}, {0, 0, 0}};
        int[][] high = {
            {7, MAX, MAX}, {7, 7, MAX}, {3, 23, MAX}, {3, 7, MAX}, {60, MAX, MAX}, {7, 7, 60}, {59, 60, MAX},
            {11, MAX, MAX}, {3, 3, 7}, {7, MAX, MAX},
        };
        for (int kind = 0; kind < 10; kind++) {
            for (int i = 0; i < 3; i++) {
                int low = good[kind][i];
                int top = high[kind][i];
                CHECK.due("kind " + kind + ", number " + i + " lowest", edge(kind, good[kind], i, low), 0);
                CHECK.due("kind " + kind + ", number " + i + " highest", edge(kind, good[kind], i, top), 0);
                int beyond = top == MAX ? 0 : BAD;
                CHECK.due("kind " + kind + ", number " + i + " below", edge(kind, good[kind], i, low - 1), beyond);
                CHECK.due("kind " + kind + ", number " + i + " above", edge(kind, good[kind], i, top + 1), beyond);
                CHECK.due("kind " + kind + ", number " + i + " MIN", edge(kind, good[kind], i, MIN), beyond);
                CHECK.due("kind " + kind + ", number " + i + " MAX", edge(kind, good[kind], i, MAX), beyond);
            }
        }
        RehearsalDesk x = new RehearsalDesk();
        for (int kind : new int[] {-1, 10, MIN, MAX}) {
            CHECK.due("kind " + kind, x.cue(kind, 1, 1, 1), BAD);
        }
        CHECK.due("refused", x.count(7), 0);
    }

    private static int edge(int kind, int[] good, int i, int value) {
        int[] n = good.clone();
        n[i] = value;
        return new RehearsalDesk().cue(kind, n[0], n[1], n[2]);
    }

    private static void cuesThatDoNotUseAll() {
        RehearsalDesk x = desk(c(LET, 0, MIN, MAX), c(TELL, 0, MIN, MAX), c(GO, 3, MIN, MAX));
        CHECK.due("run", x.run(9), 0);
        CHECK.row("told", Check.told(x), MIN);
    }

    private static void cueListIsFull() {
        RehearsalDesk x = new RehearsalDesk();
        for (int i = 0; i < 60; i++) {
            CHECK.due("cue " + i, x.cue(LET, 1, i, 0), i);
        }
        CHECK.due("cue beyond 60", x.cue(LET, 1, 0, 0), FULL);
        CHECK.due("BAD comes ahead of FULL", x.cue(LET, 8, 0, 0), BAD);
        CHECK.due("cues", x.count(7), 60);
        CHECK.due("run of all", x.run(60), 0);
        CHECK.due("the last was done", x.desk(1), 59);
        CHECK.due("cues done", x.count(8), 60);
    }

    private static void clearing() {
        RehearsalDesk x = desk(c(LET, 0, 5), c(LET, 1, 6), c(TELL, 0));
        CHECK.due("run", x.run(9), 0);
        CHECK.due("clear", x.clear(), 3);
        CHECK.due("clear again", x.clear(), 0);
        CHECK.due("cues", x.count(7), 0);
        CHECK.due("the desk is as the run left it", x.desk(0), 5);
        CHECK.due("told stays", x.told(0), 5);
        CHECK.due("cues done stay", x.count(8), 3);
        CHECK.due("a new first one", x.cue(LET, 2, 7, 0), 0);
        CHECK.due("run", x.run(9), 0);
        CHECK.row("only that", Check.desk(x), 0, 0, 7, 0, 0, 0, 0, 0, -1, -1, -1, -1);
    }

    private static void wholes() {
        RehearsalDesk x = desk(c(LET, 0, 5), c(LET, 7, -9), c(ADD, 0, 7), c(ADD, 0, 0), c(LET, 3, MAX), c(LET, 4, 1),
                c(ADD, 3, 4), c(ADD, 5, 4));
        CHECK.due("run", x.run(9), 0);
        CHECK.row("wholes", Check.desk(x), -8, 0, 0, MIN, 1, 1, 0, -9, -1, -1, -1, -1);
    }

    private static void holding() {
        RehearsalDesk x = desk(c(HOLD, 0, 2), c(HOLD, 1, 3), c(HOLD, 2, 0), c(HOLD, 2, -1), c(HOLD, 3, 2),
                c(SAME, 0, 3, 1), c(SAME, 1, 2, 2), c(SAME, 0, 1, 3), c(LET, 4, 9), c(SAME, 0, 2, 4), c(SAME, 0, 0, 5));
        CHECK.due("run", x.run(20), 0);
        CHECK.row("held", Check.desk(x), 0, 1, 1, 0, 0, 1, 0, 0, 2, -1, -1, 2);
        x.stand(0, -1);
        CHECK.due("run", x.run(20), 0);
        CHECK.row("stand 3 has come", Check.desk(x), 0, 1, 0, 0, 0, 1, 0, 0, 2, 3, -1, 2);
    }

    private static void going() {
        RehearsalDesk x = desk(c(GO, 2), c(TELL, 0), c(LET, 1, 3), c(LET, 2, 1), c(ADD, 0, 2), c(TELL, 0), c(IF, 0, 1, 4),
                c(GO, 60), c(TELL, 2));
        CHECK.due("run", x.run(100), 0);
        CHECK.row("told", Check.told(x), 1, 2, 3);
        CHECK.due("cues done", x.count(8), 13);
        retell(x, c(LET, 0, -1), c(IF, 0, 1, 60), c(FAIL, 0));
        CHECK.due("below, behind the last", x.run(9), 0);
        retell(x, c(LET, 0, 1), c(IF, 0, 1, 60), c(FAIL, 0));
        CHECK.due("not below", x.run(9), 1);
        retell(x, c(IF, 0, 1, 60), c(FAIL, 0));
        CHECK.due("the same is not below", x.run(9), 1);
        retell(x, c(GO, 2), c(FAIL, 0));
        CHECK.due("right behind the last", x.run(9), 0);
    }

    private static void calls() {
        RehearsalDesk x = desk(c(LET, 0, 10), c(LET, 1, 20), c(LET, 2, 30), c(HOLD, 0, 1), c(HOLD, 1, 2), c(HOLD, 2, 0),
                c(CALL, 0, 0), c(CALL, 2, 1), c(CALL, 2, 2));
        CHECK.due("run", x.run(9), 0);
        CHECK.row("whole, stand, whole", Check.recorded(x, 0), 1, 0, 10, 1, 20, 0, -1, 30, -1);
        CHECK.row("stand, whole, stand", Check.recorded(x, 1), 0, 1, 1, 10, 2, 3, -1, -1, -1);
        CHECK.row("three wholes", Check.recorded(x, 2), 0, 2, 10, 20, 30, 3, -1, 0, -1);
        CHECK.due("level", x.level(0), 30);
        CHECK.row("came", Check.came(x), 3, 0, -1, -1);
        retell(x, c(HOLD, 3, 0), c(CALL, 3, 1));
        CHECK.due("run", x.run(9), 0);
        CHECK.row("stands that are none", Check.recorded(x, 3), 0, 1, -1, 0, -1, 3, -1, -1, -1);
        RehearsalDesk three = new RehearsalDesk();
        three.face(-1);
        three.method(0, 3, 7, 0, 0);
        three.stand(0, -1);
        three.stand(0, -1);
        retell(three, c(HOLD, 0, 0), c(HOLD, 1, 1), c(CALL, 1, 0));
        CHECK.due("run", three.run(9), 0);
        CHECK.row("three stands", Check.recorded(three, 0), 1, 0, 0, 1, -1, 3, -1, 0, -1);
    }

    private static void callsThatFail() {
        RehearsalDesk x = desk(c(CALL, 0, 0));
        CHECK.due("of none", x.run(9), 10);
        retell(x, c(HOLD, 0, 0), c(CALL, 0, 3));
        CHECK.due("of a method that is not there", x.run(9), 11);
        retell(x, c(HOLD, 1, 2), c(CALL, 1, 0));
        CHECK.due("of a face without methods", x.run(9), 11);
        CHECK.due("none of them is recorded", x.count(3), 0);
        retell(x, c(HOLD, 0, 1), c(LET, 0, 256), c(CALL, 0, 0));
        CHECK.due("of a lamp", x.run(9), 8);
        retell(x, c(HOLD, 0, 1), c(LET, 0, 256), c(CALL, 0, 2));
        CHECK.due("undeclared", x.run(9), 9);
        CHECK.due("recorded", x.count(3), 2);
        CHECK.row("came", Check.came(x), 2, 0, 8, -1);
        retell(x, c(TRY, 1, 2), c(CALL, 0, 0), c(TELL, 6), c(HOLD, 0, 0), c(TRY, 1, 6), c(CALL, 0, 7), c(TELL, 6));
        CHECK.due("taken", x.run(9), 0);
        CHECK.row("kinds", Check.told(x), 9, 10);
    }

    private static void callsGive() {
        RehearsalDesk x = desk(c(LET, 7, 77), c(HOLD, 0, 0), c(HOLD, 3, 2), c(CALL, 0, 2));
        CHECK.due("gives nothing", x.run(9), 0);
        CHECK.row("nothing is given", Check.desk(x), 0, 0, 0, 0, 0, 0, 0, 77, 0, -1, -1, 2);
        retell(x, c(LET, 7, 77), c(HOLD, 0, 0), c(HOLD, 3, 2), c(CALL, 0, 0));
        CHECK.due("untaught", x.run(9), 0);
        CHECK.row("0 is given", Check.desk(x), 0, 0, 0, 0, 0, 0, 0, 0, 0, -1, -1, 2);
        retell(x, c(LET, 7, 77), c(HOLD, 0, 0), c(HOLD, 3, 2), c(CALL, 0, 1));
        CHECK.due("untaught", x.run(9), 0);
        CHECK.row("no stand is given", Check.desk(x), 0, 0, 0, 0, 0, 0, 0, 77, 0, -1, -1, -1);
        x.rule(0, 1);
        x.answer(0, 1, 1);
        x.answer(0, 2, 3);
        CHECK.due("taught", x.run(9), 0);
        CHECK.row("stand 1 is given", Check.desk(x), 0, 0, 0, 0, 0, 0, 0, 77, 0, -1, -1, 1);
        CHECK.due("taught to fail", x.run(9), 4);
        CHECK.row("nothing is given", Check.desk(x), 0, 0, 0, 0, 0, 0, 0, 77, 0, -1, -1, 2);
        x.rule(0, 0);
        x.answer(1, 0, 55);
        x.answer(1, 2, 3);
        retell(x, c(LET, 7, 77), c(HOLD, 0, 0), c(HOLD, 3, 2), c(CALL, 0, 0));
        CHECK.due("taught", x.run(9), 0);
        CHECK.row("55 is given", Check.desk(x), 0, 0, 0, 0, 0, 0, 0, 55, 0, -1, -1, 2);
        CHECK.due("taught to fail", x.run(9), 4);
        CHECK.row("nothing is given", Check.desk(x), 0, 0, 0, 0, 0, 0, 0, 77, 0, -1, -1, 2);
    }

    private static void uncaughtFailures() {
        for (int kind = 0; kind < 12; kind++) {
            RehearsalDesk x = desk(c(LET, 6, 99), c(FAIL, kind), c(TELL, 6));
            CHECK.due("fails with " + kind, x.run(2), kind + 1);
            CHECK.due("whole 6 stays", x.desk(6), 99);
            CHECK.due("cues done", x.count(8), 2);
            CHECK.due("none told", x.count(9), 0);
        }
    }

    private static void tries() {
        RehearsalDesk x = desk(c(TRY, 2, 4), c(LET, 0, 1), c(FAIL, 5), c(TELL, 0), c(TELL, 6));
        CHECK.due("run", x.run(9), 0);
        CHECK.row("goes on at 4", Check.told(x), 5);
        CHECK.due("cues done", x.count(8), 4);
        retell(x, c(TRY, 1, 4), c(LET, 0, 1), c(FAIL, 5), c(TELL, 0), c(TELL, 6));
        CHECK.due("behind its cues", x.run(9), 6);
        retell(x, c(TRY, 59, 60), c(FAIL, 0));
        CHECK.due("goes on behind the last", x.run(2), 0);
        CHECK.due("kind 0", x.desk(6), 0);
        retell(x, c(TRY, 59, 60), c(LET, 6, 9), c(FAIL, 0));
        CHECK.due("goes on behind the last", x.run(9), 0);
        CHECK.due("kind 0", x.desk(6), 0);
        retell(x, c(TRY, 5, 3), c(TRY, 2, 4), c(FAIL, 2), c(FAIL, 11), c(TELL, 6), c(FAIL, 3));
        CHECK.due("the innermost first, then the outer, then none", x.run(9), 12);
        CHECK.row("told", Check.told(x), 5, 2);
    }

    private static void triesAreOverWhenTaken() {
        RehearsalDesk x = desk(c(TRY, 3, 2), c(FAIL, 1), c(TELL, 6), c(FAIL, 2));
        CHECK.due("over, though it goes on inside", x.run(9), 3);
        CHECK.row("told", Check.told(x), 1);
        retell(x, c(TRY, 4, 2), c(FAIL, 3), c(TRY, 1, 4), c(FAIL, 4), c(FAIL, 5));
        CHECK.due("a new one takes, the old one is over", x.run(9), 6);
        CHECK.due("kind", x.desk(6), 4);
    }

    private static void triesAreOverWhenLeft() {
        RehearsalDesk x = desk(c(GO, 2), c(FAIL, 3), c(TRY, 2, 60), c(GO, 1), c(TELL, 0));
        CHECK.due("ahead of it", x.run(9), 4);
        retell(x, c(TRY, 2, 60), c(GO, 4), c(FAIL, 7), c(TELL, 0), c(GO, 2));
        CHECK.due("left and come back to", x.run(9), 8);
        retell(x, c(TRY, 3, 60), c(GO, 3), c(TELL, 0), c(FAIL, 7));
        CHECK.due("going inside does not leave", x.run(9), 0);
        retell(x, c(TRY, 6, 4), c(TRY, 1, 5), c(FAIL, 1), c(TELL, 0), c(FAIL, 2), c(FAIL, 3));
        CHECK.due("the outer one still takes, and is over then", x.run(9), 3);
        CHECK.due("kind", x.desk(6), 3);
    }

    private static void triesOverlap() {
        RehearsalDesk x = desk(c(TRY, 2, 5), c(TRY, 3, 6), c(LET, 0, 1), c(GO, 4), c(FAIL, 1), c(FAIL, 2), c(TELL, 6),
                c(GO, 2));
        CHECK.due("the later one takes behind the earlier one's end", x.run(5), SPENT);
        CHECK.due("kind", x.desk(6), 1);
        retell(x, c(TRY, 2, 7), c(TRY, 4, 6), c(LET, 0, 1), c(LET, 1, 1), c(IF, 2, 0, 8), c(TELL, 2), c(TELL, 3), c(TELL, 4),
                c(LET, 2, 5), c(FAIL, 3));
        CHECK.due("both are left", x.run(20), 4);
        retell(x, c(TRY, 3, 5), c(TRY, 6, 3), c(GO, 4), c(FAIL, 5), c(FAIL, 4), c(TELL, 6));
        CHECK.due("one that was left under another stays over", x.run(20), 6);
        CHECK.due("kind", x.desk(6), 4);
        retell(x, c(TRY, 4, 5), c(TRY, 6, 3), c(GO, 4), c(FAIL, 5), c(FAIL, 4), c(TELL, 6));
        CHECK.due("one that was not left takes", x.run(20), 0);
        CHECK.due("kind", x.desk(6), 5);
        retell(x, c(TRY, 2, 60), c(IF, 0, 1, 5), c(TRY, 3, 60), c(LET, 1, 1), c(GO, 1), c(FAIL, 4));
        CHECK.due("the later one is left where the earlier one was", x.run(20), 5);
    }

    private static void triesInTurns() {
        RehearsalDesk x = desk(c(LET, 1, 3), c(LET, 2, 1), c(TRY, 2, 5), c(ADD, 0, 2), c(FAIL, 6), c(TELL, 6), c(IF, 0, 1, 2),
                c(TELL, 0));
        CHECK.due("each turn opens it again", x.run(100), 0);
        CHECK.row("told", Check.told(x), 6, 6, 6, 3);
        retell(x, c(LET, 1, 30), c(LET, 2, 1), c(TRY, 2, 6), c(ADD, 0, 2), c(IF, 0, 1, 2), c(GO, 7), c(TELL, 6), c(TELL, 0));
        x.forget();
        CHECK.due("coming to it leaves the turn before", x.run(200), 0);
        CHECK.row("never eleven open", Check.told(x), 30);
        retell(x, c(TRY, 1, 2), c(FAIL, 3), c(FAIL, 4));
        CHECK.due("the first run's", x.run(1), SPENT);
        retell(x, c(LET, 0, 0), c(FAIL, 3));
        CHECK.due("is not open in the next", x.run(9), 4);
    }

    private static void tenTries() {
        RehearsalDesk x = desk();
        for (int i = 0; i < 10; i++) {
            x.cue(TRY, 40, 20 + i, 0);
        }
        x.cue(GO, 12, 0, 0);
        x.cue(TELL, 7, 0, 0);
        x.cue(TRY, 1, 11, 0);
        for (int i = 13; i < 30; i++) {
            x.cue(FAIL, 1, 0, 0);
        }
        x.cue(TELL, 6, 0, 0);
        CHECK.due("the eleventh fails, the tenth takes it", x.run(12), SPENT);
        CHECK.due("kind", x.desk(6), 11);
        CHECK.due("then each takes in turn", x.run(100), 2);
        CHECK.due("cues done", x.count(8), 12 + 22);
        retell(x, c(TRY, 1, 60), c(TRY, 20, 60), c(TRY, 20, 60), c(TRY, 20, 60), c(TRY, 20, 60), c(TRY, 20, 60),
                c(TRY, 20, 60), c(TRY, 20, 60), c(TRY, 20, 60), c(TRY, 20, 60), c(TRY, 20, 60), c(TELL, 0));
        x.forget();
        CHECK.due("one that was left is not among the ten", x.run(100), 0);
        CHECK.due("all eleven were opened", x.count(9), 1);
        CHECK.due("kind", x.desk(6), 0);
    }

    private static void spent() {
        RehearsalDesk x = desk(c(LET, 0, 1), c(LET, 1, 2), c(LET, 2, 3));
        CHECK.due("one too few", x.run(2), SPENT);
        CHECK.row("two were done", Check.desk(x), 1, 2, 0, 0, 0, 0, 0, 0, -1, -1, -1, -1);
        CHECK.due("just as many", x.run(3), 0);
        CHECK.due("one more", x.run(4), 0);
        CHECK.due("cues done", x.count(8), 8);
        retell(x, c(GO, 0));
        CHECK.due("for ever", x.run(1000), SPENT);
        CHECK.due("cues done", x.count(8), 1008);
        retell(x, c(TRY, 1, 0), c(FAIL, 0));
        CHECK.due("taken with the last one", x.run(2), SPENT);
        retell(x, c(LET, 0, 1), c(FAIL, 0));
        CHECK.due("failing with the last one", x.run(2), 1);
        CHECK.due("spent ahead of it", x.run(1), SPENT);
    }

    private static void refusedRuns() {
        RehearsalDesk x = desk(c(LET, 0, 1));
        x.run(1);
        retell(x, c(LET, 0, 2));
        for (int n : new int[] {0, -1, 1001, MIN, MAX}) {
            CHECK.due("run(" + n + ")", x.run(n), BAD);
        }
        CHECK.due("nothing changed", x.desk(0), 1);
        CHECK.due("nothing was done", x.count(8), 1);
        CHECK.due("run(1000)", x.run(1000), 0);
        retell(x);
        CHECK.due("a run without cues", x.run(5), 0);
        CHECK.due("begins anew", x.desk(0), 0);
    }

    private static void wornOut() {
        RehearsalDesk x = desk(c(LET, 0, 1), c(GO, 0));
        for (int i = 0; i < 19; i++) {
            x.run(1000);
        }
        CHECK.due("run", x.run(999), SPENT);
        CHECK.due("19999 were done", x.count(8), 19999);
        CHECK.due("one more run", x.run(1000), SPENT);
        CHECK.due("20999 were done", x.count(8), 20999);
        CHECK.due("no more", x.run(1), FULL);
        CHECK.due("BAD comes ahead of FULL", x.run(0), BAD);
        CHECK.due("the desk stays", x.desk(0), 1);
        x.forget();
        x.clear();
        CHECK.due("nor when it was told to forget", x.run(1), FULL);
        RehearsalDesk y = desk(c(GO, 0));
        for (int i = 0; i < 20; i++) {
            y.run(1000);
        }
        CHECK.due("20000 were done", y.count(8), 20000);
        CHECK.due("no more", y.run(1), FULL);
    }

    private static void deskOf() {
        RehearsalDesk x = desk(c(LET, 0, 5), c(LET, 7, -1001), c(HOLD, 0, 1), c(HOLD, 3, 2), c(FAIL, 0));
        for (int i : new int[] {-1, 12, MIN, MAX}) {
            CHECK.due("desk(" + i + ")", x.desk(i), FAR_BAD);
        }
        CHECK.row("no run yet", Check.desk(x), 0, 0, 0, 0, 0, 0, 0, 0, -1, -1, -1, -1);
        x.run(9);
        CHECK.row("as a failing run left it", Check.desk(x), 5, 0, 0, 0, 0, 0, 0, -1001, 1, -1, -1, 2);
        x.run(3);
        CHECK.row("as a spent run left it", Check.desk(x), 5, 0, 0, 0, 0, 0, 0, -1001, 1, -1, -1, -1);
    }

    private static void told() {
        RehearsalDesk x = desk(c(LET, 0, 1), c(TELL, 1), c(ADD, 1, 0), c(GO, 1));
        for (int i : new int[] {0, -1, MIN, MAX}) {
            CHECK.due("told(" + i + ")", x.told(i), FAR_BAD);
        }
        x.run(29);
        CHECK.due("told", x.count(9), 10);
        CHECK.due("told(10)", x.told(10), FAR_BAD);
        x.run(270);
        CHECK.due("of all runs", x.count(9), 100);
        x.run(30);
        CHECK.due("100 at most", x.count(9), 100);
        CHECK.due("told(0)", x.told(0), 0);
        CHECK.due("told(9)", x.told(9), 9);
        CHECK.due("told(10)", x.told(10), 0);
        CHECK.due("told(99)", x.told(99), 89);
        CHECK.due("told(100)", x.told(100), FAR_BAD);
        CHECK.due("told(-1)", x.told(-1), FAR_BAD);
    }
}
