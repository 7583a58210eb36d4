/** The sentences of part 4 of the terms and of promises 21 to 27, one test each. */
public final class DeskEdgesTest {
    private static final int BAD = RehearsalDesk.BAD, FULL = RehearsalDesk.FULL, SPENT = RehearsalDesk.SPENT;
    private static final int FAR_BAD = -1001;
    private static final int MIN = Check.MIN, MAX = Check.MAX;
    private static final int LET = 0, ADD = 1, HOLD = 2, CALL = 3, GO = 4, IF = 5, TRY = 6, FAIL = 7, SAME = 8, TELL = 9;
    private static final Check CHECK = new Check("DeskEdgesTest");

    public static void main(String[] args) throws ReflectiveOperationException {
        Edges.run(CHECK, DeskEdgesTest.class);
    }

    /**
     * Methods 0 to 7 take what bits 0 to 7 of three parameters say and give nothing, a whole, a stand in turn. Stand 0
     * is plain, 1 watches thing 0, 2 is of a face without methods.
     */
    private static RehearsalDesk desk() {
        RehearsalDesk x = new RehearsalDesk();
        x.face(-1);
        for (int bits = 0; bits < 8; bits++) {
            x.method(0, 3, bits, bits % 3, 255);
        }
        x.face(-1);
        x.stand(0, -1);
        x.stand(0, 0);
        x.stand(1, -1);
        return x;
    }

    private static RehearsalDesk desk(int[]... cues) {
        RehearsalDesk x = desk();
        CHECK.retell(x, cues);
        return x;
    }

    private static int[] c(int... cue) {
        return cue;
    }

    /** What a run of at most 100 of these cues answers. */
    private static int run(int[]... cues) {
        return desk(cues).run(100);
    }

    /** What is told by a run of at most 100 of these cues that ends behind the last one. */
    private static int[] told(int[]... cues) {
        RehearsalDesk x = desk(cues);
        CHECK.due("the run", x.run(100), 0);
        return Check.told(x);
    }

    // ---- terms

    @Edges.Says(in = "Terms 4", words = "THE DESK has CUES 0 .. 59,")
    static void sixtyCues() {
        RehearsalDesk x = new RehearsalDesk();
        for (int i = 0; i <= 59; i++) {
            CHECK.due("cue " + i, x.cue(TELL, 0, 0, 0), i);
        }
        CHECK.due("a sixty-first", x.cue(TELL, 0, 0, 0), FULL);
        CHECK.due("all are done", x.run(1000), 0);
        CHECK.due("cues done", x.count(8), 60);
        CHECK.due("the last of them told", x.count(9), 60);
    }

    @Edges.Says(in = "Terms 4", words = "WHOLES 0 .. 7,")
    static void eightWholes() {
        int[][] cues = new int[8][];
        for (int i = 0; i <= 7; i++) {
            cues[i] = c(LET, i, 10 + i);
        }
        RehearsalDesk x = desk(cues);
        CHECK.due("run", x.run(100), 0);
        CHECK.row("each has its own", Check.desk(x), 10, 11, 12, 13, 14, 15, 16, 17, -1, -1, -1, -1);
        CHECK.due("whole 8", x.cue(LET, 8, 0, 0), BAD);
        CHECK.due("whole -1", x.cue(LET, -1, 0, 0), BAD);
    }

    @Edges.Says(in = "Terms 4", words = "STANDS 0 .. 3 (none).")
    static void fourStands() {
        RehearsalDesk x = desk();
        CHECK.due("a run of nothing", x.run(100), 0);
        CHECK.row("none at first", Check.desk(x), 0, 0, 0, 0, 0, 0, 0, 0, -1, -1, -1, -1);
        x.stand(0, -1);
        CHECK.retell(x, c(HOLD, 0, 3), c(HOLD, 1, 2), c(HOLD, 2, 1), c(HOLD, 3, 0));
        CHECK.due("run", x.run(100), 0);
        CHECK.row("each has its own", Check.desk(x), 0, 0, 0, 0, 0, 0, 0, 0, 3, 2, 1, 0);
        CHECK.due("stand 4", x.cue(HOLD, 4, 0, 0), BAD);
        CHECK.due("stand -1", x.cue(HOLD, -1, 0, 0), BAD);
    }

    @Edges.Says(in = "Terms 4", words = "A RUN does CUES from 0 on: 0 LET WHOLE a be b.")
    static void letIt() {
        CHECK.row("the lowest, the highest", told(c(LET, 0, MIN), c(LET, 7, MAX), c(TELL, 0), c(TELL, 7)), MIN, MAX);
        CHECK.row("in turn", told(c(TELL, 0), c(LET, 0, 1), c(TELL, 0), c(LET, 0, 2), c(TELL, 0)), 0, 1, 2);
    }

    @Edges.Says(in = "Terms 4", words = "1 ADD WHOLE b to WHOLE a (going round).")
    static void addIt() {
        CHECK.row("round above", told(c(LET, 0, MAX), c(LET, 1, 1), c(ADD, 0, 1), c(TELL, 0), c(TELL, 1)), MIN, 1);
        CHECK.row("round below", told(c(LET, 0, MIN), c(LET, 7, -1), c(ADD, 0, 7), c(TELL, 0)), MAX);
        CHECK.row("to itself", told(c(LET, 7, MIN), c(ADD, 7, 7), c(TELL, 7)), 0);
        CHECK.row("not round", told(c(LET, 0, MAX), c(LET, 1, MIN), c(ADD, 0, 1), c(TELL, 0)), -1);
    }

    @Edges.Says(in = "Terms 4", words = "2 HOLD: STAND a becomes STAND number b (-1: none).")
    static void holdIt() {
        RehearsalDesk x = desk(c(HOLD, 0, 0), c(HOLD, 1, 2), c(HOLD, 3, 1), c(HOLD, 3, -1));
        CHECK.due("run", x.run(100), 0);
        CHECK.row("held", Check.desk(x), 0, 0, 0, 0, 0, 0, 0, 0, 0, 2, -1, -1);
        CHECK.due("held till then", x.run(3), SPENT);
        CHECK.due("stand 3", x.desk(11), 1);
    }

    @Edges.Says(in = "Terms 4", words = "3 CALL METHOD b of what STAND a is: WHOLES for PARAMETERS from WHOLE 0 on, "
            + "STANDS from STAND 0 on (the first WHOLE PARAMETER gets WHOLE 0, the next one WHOLE 1, ..);")
    static void callWith() {
        for (int bits = 0; bits < 8; bits++) {
            RehearsalDesk x = desk(c(LET, 0, 10), c(LET, 1, 20), c(LET, 2, 30), c(LET, 3, 40), c(HOLD, 0, 2),
                    c(HOLD, 1, 1), c(HOLD, 2, -1), c(HOLD, 3, 0), c(CALL, 3, bits));
            CHECK.due("run", x.run(100), 0);
            int[] due = {0, bits, 0, 0, 0};
            int wholes = 0;
            int stands = 0;
            for (int i = 0; i < 3; i++) {
                due[2 + i] = (bits & 1 << i) == 0 ? 10 + 10 * wholes++ : 2 - stands++;
            }
            due[4] = bits == 7 ? -1 : due[4];
            for (int what = 0; what < 5; what++) {
                CHECK.due("bits " + bits + ", number " + what, x.recorded(0, what), due[what]);
            }
        }
    }

    @Edges.Says(in = "Terms 4", words = "what it gives becomes WHOLE 7, or STAND 3.")
    static void callGives() {
        int[][] before = {c(LET, 7, 77), c(HOLD, 3, 2), c(HOLD, 0, 0)};
        int[] wholes = {77, 42, 77};
        int[] stands = {2, 2, 1};
        int[] untaughtWholes = {77, 0, 77};
        int[] untaughtStands = {2, 2, -1};
        for (int method = 0; method <= 2; method++) {
            RehearsalDesk x = desk(before[0], before[1], before[2], c(CALL, 0, method));
            CHECK.due("untaught", x.run(100), 0);
            CHECK.due("whole 7", x.desk(7), untaughtWholes[method]);
            CHECK.due("stand 3", x.desk(11), untaughtStands[method]);
            x.rule(0, method);
            x.answer(0, method == 2 ? 1 : 0, method == 2 ? 1 : 42);
            x.answer(0, 2, 5);
            CHECK.due("taught", x.run(100), 0);
            CHECK.due("whole 7", x.desk(7), wholes[method]);
            CHECK.due("stand 3", x.desk(11), stands[method]);
            CHECK.due("taught to fail", x.run(100), 6);
            CHECK.due("whole 7 stays", x.desk(7), 77);
            CHECK.due("stand 3 stays", x.desk(11), 2);
        }
    }

    @Edges.Says(in = "Terms 4", words = "4 GO to CUE a.")
    static void goIt() {
        CHECK.due("to the first one", desk(c(GO, 0)).run(1000), SPENT);
        CHECK.row("to the last one", told(c(GO, 2), c(FAIL, 0), c(TELL, 0)), 0);
        CHECK.due("right behind the last one", run(c(GO, 2), c(FAIL, 0)), 0);
        CHECK.due("far behind it", run(c(GO, 60), c(FAIL, 0)), 0);
    }

    @Edges.Says(in = "Terms 4", words = "5 GO to CUE c, if WHOLE a is below WHOLE b.")
    static void goIfBelow() {
        int[][] pairs = {{0, 1}, {-1, 0}, {MIN, MAX}, {MIN, 0}, {-1, MAX}, {MAX - 1, MAX}};
        for (int[] p : pairs) {
            int[][] cues = {c(LET, 0, p[0]), c(LET, 7, p[1]), c(IF, 0, 7, 4), c(FAIL, 0)};
            CHECK.due(p[0] + " below " + p[1], run(cues), 0);
            cues[2] = c(IF, 7, 0, 4);
            CHECK.due(p[1] + " not below " + p[0], run(cues), 1);
            cues[2] = c(IF, 0, 0, 4);
            CHECK.due(p[0] + " not below itself", run(cues), 1);
        }
        CHECK.due("to the first one", desk(c(LET, 1, 1), c(IF, 0, 1, 0)).run(1000), SPENT);
        CHECK.due("far behind the last one", run(c(LET, 1, 1), c(IF, 0, 1, 60), c(FAIL, 0)), 0);
    }

    @Edges.Says(in = "Terms 4", words = "6 TRY: when one of the next a CUES FAILS")
    static void tryNext() {
        for (int a = 1; a <= 4; a++) {
            for (int at = 1; at <= 5; at++) {
                int[][] cues = {c(TRY, a, 6), c(LET, 0, 0), c(LET, 0, 0), c(LET, 0, 0), c(LET, 0, 0), c(LET, 0, 0)};
                cues[at] = c(FAIL, 3);
                CHECK.due("cue " + at + " of the next " + a, run(cues), at <= a ? 0 : 4);
            }
        }
        CHECK.due("ahead of it", run(c(FAIL, 2), c(TRY, 1, 2)), 3);
        CHECK.due("more than there are", run(c(TRY, 59, 60), c(LET, 0, 0), c(FAIL, 0)), 0);
        CHECK.due("none behind it", run(c(LET, 0, 0), c(TRY, 59, 0)), 0);
    }

    @Edges.Says(in = "Terms 4", words = "(in this turn of it, till CUE behind them, or one outside, is come to),")
    static void tryTillLeft() {
        CHECK.due("behind them, then in again",
                run(c(TRY, 2, 60), c(IF, 1, 0, 4), c(LET, 0, 1), c(GO, 1), c(FAIL, 5)), 6);
        CHECK.due("behind them, then in again and failing",
                run(c(TRY, 2, 60), c(GO, 3), c(FAIL, 4), c(GO, 2)), 5);
        CHECK.due("far outside, then in again and failing",
                run(c(TRY, 2, 60), c(GO, 5), c(FAIL, 4), c(LET, 0, 0), c(LET, 0, 0), c(GO, 2)), 5);
        CHECK.due("ahead of it, then in again and failing",
                run(c(GO, 2), c(GO, 4), c(TRY, 2, 60), c(GO, 1), c(FAIL, 4)), 5);
        CHECK.due("going on inside is not leaving",
                run(c(TRY, 3, 60), c(GO, 3), c(GO, 60), c(FAIL, 4)), 0);
        CHECK.due("going back inside is not leaving",
                run(c(TRY, 3, 60), c(IF, 0, 1, 4), c(LET, 1, 1), c(GO, 1), c(FAIL, 4)), 5);
        CHECK.row("each turn is its own", told(c(LET, 1, 12), c(LET, 2, 1), c(TRY, 2, 5), c(ADD, 0, 2), c(FAIL, 6),
                c(TELL, 6), c(IF, 0, 1, 2)), 6, 6, 6, 6, 6, 6, 6, 6, 6, 6, 6, 6);
        CHECK.row("coming to it again from inside leaves it",
                told(c(LET, 1, 12), c(LET, 2, 1), c(TRY, 2, 60), c(ADD, 0, 2), c(IF, 0, 1, 2), c(TELL, 0)), 12);
        RehearsalDesk x = desk(c(TRY, 1, 60), c(LET, 0, 0));
        CHECK.due("spent inside it", x.run(1), SPENT);
        CHECK.retell(x, c(LET, 0, 0), c(FAIL, 4));
        CHECK.due("it is not open in the next run", x.run(100), 5);
    }

    @Edges.Says(in = "Terms 4", words = "it goes on at CUE b, with the KIND in WHOLE 6.")
    static void tryGoesOn() {
        for (int kind = 0; kind <= 11; kind++) {
            CHECK.row("kind " + kind, told(c(LET, 6, 99), c(TRY, 1, 4), c(FAIL, kind), c(TELL, 0), c(TELL, 6)), kind);
        }
        CHECK.due("at the first one, for ever", run(c(TRY, 1, 0), c(FAIL, 1)), SPENT);
        CHECK.due("right behind the last one", run(c(TRY, 1, 2), c(FAIL, 1)), 0);
        CHECK.due("far behind the last one", run(c(TRY, 1, 60), c(FAIL, 1), c(FAIL, 2)), 0);
        CHECK.row("ahead of it", told(c(GO, 3), c(TELL, 6), c(GO, 60), c(TRY, 1, 1), c(FAIL, 8)), 8);
        RehearsalDesk x = desk(c(LET, 6, 99), c(FAIL, 3));
        CHECK.due("one that no try takes", x.run(100), 4);
        CHECK.due("leaves whole 6", x.desk(6), 99);
    }

    @Edges.Says(in = "Terms 4", words = "7 FAIL with KIND a.")
    static void failIt() {
        for (int kind = 0; kind <= 11; kind++) {
            CHECK.due("kind " + kind, run(c(FAIL, kind)), kind + 1);
        }
    }

    @Edges.Says(in = "Terms 4",
            words = "8 SAME: WHOLE c becomes 1 if STANDS a, b are the same one (or both none), else 0.")
    static void sameIt() {
        int[] held = {1, 1, -1, -1};
        for (int a = 0; a <= 3; a++) {
            for (int b = 0; b <= 3; b++) {
                int is = held[a] == held[b] ? 1 : 0;
                CHECK.row("stands " + a + ", " + b,
                        told(c(HOLD, 0, 1), c(HOLD, 1, 1), c(LET, 7, 9), c(SAME, a, b, 7), c(TELL, 7)), is);
            }
        }
        CHECK.row("two of them", told(c(HOLD, 0, 0), c(HOLD, 3, 1), c(LET, 0, 9), c(SAME, 0, 3, 0), c(TELL, 0)), 0);
        CHECK.row("the first one and none", told(c(HOLD, 0, 0), c(LET, 0, 9), c(SAME, 0, 3, 0), c(TELL, 0)), 0);
        CHECK.row("two numbers that no stand has", told(c(HOLD, 0, 3), c(HOLD, 1, 23), c(SAME, 0, 1, 0), c(TELL, 0)), 1);
    }

    @Edges.Says(in = "Terms 4", words = "9 TELL WHOLE a (100 in all are kept, of all RUNS).")
    static void hundredTold() {
        RehearsalDesk x = desk(c(LET, 1, 1), c(ADD, 0, 1), c(TELL, 0), c(GO, 1));
        x.run(180);
        CHECK.due("of one run", x.count(9), 60);
        x.run(117);
        CHECK.due("of two runs", x.count(9), 99);
        x.run(3);
        CHECK.due("a hundred", x.count(9), 100);
        x.run(9);
        CHECK.due("no more", x.count(9), 100);
        CHECK.due("of the first run", x.told(59), 60);
        CHECK.due("of the second run", x.told(60), 1);
        CHECK.due("the last of the second run", x.told(98), 39);
        CHECK.due("the hundredth", x.told(99), 1);
        CHECK.due("none behind it", x.told(100), FAR_BAD);
        CHECK.due("the run goes on with what is not kept", x.desk(0), 3);
    }

    @Edges.Says(in = "Terms 4",
            words = "A CALL of a STAND that is none FAILS with KIND 9, of a METHOD that its FACE has not with KIND 10.")
    static void callsOfNone() {
        CHECK.due("none at first", run(c(CALL, 3, 0)), 10);
        CHECK.due("none any more", run(c(HOLD, 0, 0), c(HOLD, 0, -1), c(CALL, 0, 0)), 10);
        CHECK.due("a number that no stand has", run(c(HOLD, 0, 3), c(CALL, 0, 0)), 10);
        CHECK.due("no stand, no method", run(c(HOLD, 1, 2), c(CALL, 0, 7)), 10);
        CHECK.due("a face without methods", run(c(HOLD, 0, 2), c(CALL, 0, 0)), 11);
        CHECK.due("the last method that there may be", run(c(HOLD, 0, 2), c(CALL, 0, 7)), 11);
        CHECK.due("the last one that is there", run(c(HOLD, 0, 0), c(CALL, 0, 7)), 0);
        RehearsalDesk x = new RehearsalDesk();
        x.face(-1);
        x.method(0, 0, 0, 0, 0);
        x.stand(0, -1);
        CHECK.retell(x, c(HOLD, 0, 0), c(CALL, 0, 1));
        CHECK.due("the first one that is not", x.run(100), 11);
        CHECK.retell(x, c(TRY, 1, 2), c(CALL, 0, 0), c(TELL, 6), c(HOLD, 0, 0), c(TRY, 1, 6), c(CALL, 0, 1), c(TELL, 6));
        CHECK.due("tries take them", x.run(100), 0);
        CHECK.row("their kinds", Check.told(x), 9, 10);
        CHECK.due("none is recorded", x.count(3), 0);
        CHECK.due("nor lost", x.count(4), 0);
    }

    @Edges.Says(in = "Terms 4", words = "A RUN ends when a CUE behind the last one is come to,")
    static void endsBehind() {
        RehearsalDesk x = desk(c(LET, 0, 1), c(LET, 1, 2), c(LET, 2, 3));
        CHECK.due("just as many as told", x.run(3), 0);
        CHECK.due("more were told", x.run(4), 0);
        CHECK.due("done", x.count(8), 6);
        CHECK.retell(x, c(GO, 1));
        CHECK.due("gone to with the last that was told", x.run(1), 0);
        CHECK.retell(x, c(LET, 1, 1), c(IF, 0, 1, 60), c(FAIL, 0));
        CHECK.due("gone to if below, with the last that was told", x.run(2), 0);
        CHECK.retell(x, c(TRY, 1, 2), c(FAIL, 0));
        CHECK.due("come to by a failure, with the last that was told", x.run(2), 0);
        CHECK.retell(x);
        CHECK.due("at once", x.run(1), 0);
        CHECK.due("done", x.count(8), 6 + 1 + 2 + 2);
    }

    @Edges.Says(in = "Terms 4", words = "by a FAILURE that no TRY takes,")
    static void endsByAFailure() {
        RehearsalDesk x = desk(c(LET, 0, 1), c(FAIL, 0), c(LET, 0, 2));
        CHECK.due("the last that was told fails", x.run(2), 1);
        CHECK.due("more were told", x.run(3), 1);
        CHECK.due("what is behind it is not done", x.desk(0), 1);
        CHECK.due("the one that failed was done", x.count(8), 4);
    }

    @Edges.Says(in = "Terms 4", words = "or else when so many CUES as told were done (SPENT).")
    static void endsSpent() {
        RehearsalDesk x = desk(c(LET, 0, 1), c(LET, 1, 2), c(FAIL, 5));
        CHECK.due("one", x.run(1), SPENT);
        CHECK.row("was done", Check.desk(x), 1, 0, 0, 0, 0, 0, 0, 0, -1, -1, -1, -1);
        CHECK.due("two", x.run(2), SPENT);
        CHECK.row("were done", Check.desk(x), 1, 2, 0, 0, 0, 0, 0, 0, -1, -1, -1, -1);
        CHECK.due("done", x.count(8), 3);
        CHECK.retell(x, c(TRY, 1, 0), c(FAIL, 5));
        CHECK.due("the last that was told fails and is taken", x.run(2), SPENT);
        CHECK.due("its kind", x.desk(6), 5);
        CHECK.retell(x, c(GO, 0));
        CHECK.due("a thousand", x.run(1000), SPENT);
        CHECK.due("done", x.count(8), 1005);
    }

    @Edges.Says(in = "Terms 4",
            words = "TRIES open in one another: the innermost that a CUE is in takes it, and is over then;")
    static void innermostTakes() {
        int[][] nested = {c(TRY, 9, 6), c(TRY, 9, 4), c(FAIL, 2), c(TELL, 0), c(TELL, 6), c(FAIL, 3), c(TELL, 6), c(FAIL, 4)};
        RehearsalDesk x = desk(nested);
        CHECK.due("the innermost, the outer one, then none", x.run(100), 5);
        CHECK.row("told", Check.told(x), 2, 3);
        CHECK.due("one that took is over, though it goes on inside", run(c(TRY, 3, 2), c(FAIL, 1), c(FAIL, 2)), 3);
        CHECK.due("the inner one's cues are over, the outer one's not",
                run(c(TRY, 4, 60), c(TRY, 1, 3), c(LET, 0, 0), c(FAIL, 1)), 0);
        CHECK.row("the later one takes behind the earlier one's end",
                told(c(TRY, 2, 60), c(TRY, 3, 5), c(LET, 0, 0), c(LET, 0, 0), c(FAIL, 1), c(TELL, 6)), 1);
        CHECK.row("one inside ends, and the outer one takes",
                told(c(TRY, 5, 6), c(TRY, 1, 5), c(LET, 0, 0), c(FAIL, 7), c(FAIL, 8), c(FAIL, 9), c(TELL, 6)), 7);
    }

    @Edges.Says(in = "Terms 4", words = "one that the RUN left is over;")
    static void leftIsOver() {
        CHECK.due("both are left at once",
                run(c(TRY, 3, 60), c(TRY, 2, 60), c(GO, 5), c(FAIL, 1), c(GO, 60), c(GO, 3)), 2);
        CHECK.due("only the inner one is left",
                run(c(TRY, 5, 60), c(TRY, 1, 6), c(GO, 4), c(FAIL, 1), c(GO, 3), c(FAIL, 2), c(FAIL, 3)), 0);
        CHECK.due("only the outer one is left, under the inner one",
                run(c(HOLD, 0, 0), c(TRY, 2, 60), c(TRY, 5, 3), c(CALL, 0, 0), c(HOLD, 0, -1), c(FAIL, 1)), 10);
        CHECK.due("the inner one is left ahead of its own first cue, inside what was the outer one",
                run(c(HOLD, 0, 0), c(TRY, 3, 60), c(CALL, 0, 0), c(TRY, 4, 60), c(LET, 0, 0), c(HOLD, 0, -1), c(GO, 2)), 10);
        CHECK.due("taking leaves those that it goes on outside of",
                run(c(TRY, 2, 60), c(TRY, 2, 4), c(FAIL, 1), c(FAIL, 2), c(GO, 2)), 2);
        CHECK.due("it goes on inside the outer one, which takes then",
                run(c(TRY, 4, 60), c(TRY, 1, 4), c(FAIL, 1), c(FAIL, 2), c(FAIL, 3)), 0);
    }

    @Edges.Says(in = "Terms 4", words = "ten at most are open (the eleventh FAILS with KIND 11).")
    static void tenTries() {
        for (int tries = 9; tries <= 11; tries++) {
            RehearsalDesk x = desk();
            for (int i = 0; i < tries; i++) {
                x.cue(TRY, 40, 30, 0);
            }
            CHECK.due(tries + " tries", x.run(100), 0);
            CHECK.due("kind", x.desk(6), tries == 11 ? 11 : 0);
            CHECK.due("done", x.count(8), tries);
        }
        RehearsalDesk x = desk();
        for (int i = 0; i < 10; i++) {
            x.cue(TRY, 40, 12 + i, 0);
        }
        x.cue(TRY, 1, 11, 0);
        x.cue(LET, 0, 77, 0);
        for (int i = 12; i < 22; i++) {
            x.cue(FAIL, 1, 0, 0);
        }
        CHECK.due("the tenth takes it, then each takes one", x.run(100), 2);
        CHECK.due("done", x.count(8), 11 + 10);
        CHECK.due("the eleventh's next was not done", x.desk(0), 0);
        int[][] eleven = new int[12][];
        eleven[0] = c(TRY, 1, 60);
        for (int i = 1; i < 11; i++) {
            eleven[i] = c(TRY, 20, 60);
        }
        eleven[11] = c(TELL, 6);
        CHECK.row("one that was left is not among the ten", told(eleven), 0);
        int[][] taken = new int[14][];
        taken[0] = c(TRY, 13, 2);
        taken[1] = c(FAIL, 4);
        for (int i = 2; i < 12; i++) {
            taken[i] = c(TRY, 20, 60);
        }
        taken[12] = c(TELL, 6);
        taken[13] = c(LET, 0, 0);
        CHECK.row("nor is one that took", told(taken), 4);
        int[][] uncaught = new int[12][];
        uncaught[0] = c(GO, 2);
        uncaught[1] = c(FAIL, 11);
        for (int i = 2; i < 12; i++) {
            uncaught[i] = c(TRY, 20, 1);
        }
        CHECK.due("ten and no failure", run(uncaught), 0);
    }

    // ---- promise 21

    @Edges.Says(in = "Promise 21", words = "A CUE more: its number.")
    static void cueNumbers() {
        RehearsalDesk x = new RehearsalDesk();
        for (int kind = 0; kind <= 9; kind++) {
            CHECK.due("kind " + kind, x.cue(kind, 1, 1, 1), kind);
        }
        x.clear();
        CHECK.due("the first again", x.cue(LET, 0, 0, 0), 0);
    }

    @Edges.Says(in = "Promise 21", words = "BAD: kind 0 .. 9;")
    static void cueKinds() {
        RehearsalDesk x = new RehearsalDesk();
        for (int kind : Check.beyond(0, 9)) {
            CHECK.due("kind " + kind, x.cue(kind, 1, 1, 1), BAD);
        }
        CHECK.due("kind 0", x.cue(0, 1, 1, 1), 0);
        CHECK.due("kind 9", x.cue(9, 1, 1, 1), 1);
    }

    /** That a kind takes a number (1 a, 2 b, 3 c) from .. to and none beyond, the others being 1. */
    private static void range(int kind, int number, int from, int to) {
        RehearsalDesk x = new RehearsalDesk();
        for (int value : Check.beyond(from, to)) {
            CHECK.due("kind " + kind + ", number " + number + " is " + value, cue(x, kind, number, value), BAD);
        }
        CHECK.due("none was taken", x.count(7), 0);
        CHECK.due("kind " + kind + ", number " + number + " is " + from, cue(x, kind, number, from), 0);
        CHECK.due("kind " + kind + ", number " + number + " is " + to, cue(x, kind, number, to), 1);
    }

    private static int cue(RehearsalDesk x, int kind, int number, int value) {
        return x.cue(kind, number == 1 ? value : 1, number == 2 ? value : 1, number == 3 ? value : 1);
    }

    @Edges.Says(in = "Promise 21", words = "a of 0, 1, 5, 9 not 0 .. 7,")
    static void cueWholeA() {
        range(LET, 1, 0, 7);
        range(ADD, 1, 0, 7);
        range(IF, 1, 0, 7);
        range(TELL, 1, 0, 7);
    }

    @Edges.Says(in = "Promise 21", words = "of 2, 3, 8 not 0 .. 3,")
    static void cueStandA() {
        range(HOLD, 1, 0, 3);
        range(CALL, 1, 0, 3);
        range(SAME, 1, 0, 3);
    }

    @Edges.Says(in = "Promise 21", words = "of 4 not 0 .. 60,")
    static void cueGoA() {
        range(GO, 1, 0, 60);
    }

    @Edges.Says(in = "Promise 21", words = "of 6 not 1 .. 59,")
    static void cueTryA() {
        range(TRY, 1, 1, 59);
    }

    @Edges.Says(in = "Promise 21", words = "of 7 not 0 .. 11;")
    static void cueFailA() {
        range(FAIL, 1, 0, 11);
    }

    @Edges.Says(in = "Promise 21", words = "b of 1, 5 not 0 .. 7,")
    static void cueWholeB() {
        range(ADD, 2, 0, 7);
        range(IF, 2, 0, 7);
    }

    @Edges.Says(in = "Promise 21", words = "of 2 not -1 .. 23,")
    static void cueHoldB() {
        range(HOLD, 2, -1, 23);
    }

    @Edges.Says(in = "Promise 21", words = "of 3 not 0 .. 7,")
    static void cueCallB() {
        range(CALL, 2, 0, 7);
    }

    @Edges.Says(in = "Promise 21", words = "of 6 not 0 .. 60,")
    static void cueTryB() {
        range(TRY, 2, 0, 60);
    }

    @Edges.Says(in = "Promise 21", words = "of 8 not 0 .. 3;")
    static void cueSameB() {
        range(SAME, 2, 0, 3);
    }

    @Edges.Says(in = "Promise 21", words = "c of 5 not 0 .. 60,")
    static void cueIfC() {
        range(IF, 3, 0, 60);
    }

    @Edges.Says(in = "Promise 21", words = "of 8 not 0 .. 7;")
    static void cueSameC() {
        range(SAME, 3, 0, 7);
        int[] usesB = {0, 1, 1, 1, 0, 1, 1, 0, 1, 0};
        int[] usesC = {0, 0, 0, 0, 0, 1, 0, 0, 1, 0};
        RehearsalDesk x = new RehearsalDesk();
        for (int kind = 0; kind <= 9; kind++) {
            for (int odd : new int[] {MIN, -2, 61, MAX}) {
                CHECK.due("kind " + kind + ", any b: " + odd, x.cue(kind, 1, odd, 1) >= 0 ? 0 : 1, usesB[kind]);
                CHECK.due("kind " + kind + ", any c: " + odd, x.cue(kind, 1, 1, odd) >= 0 ? 0 : 1, usesC[kind]);
            }
        }
    }

    @Edges.Says(in = "Promise 21", words = "FULL.")
    static void cueFull() {
        RehearsalDesk x = new RehearsalDesk();
        for (int i = 0; i < 59; i++) {
            x.cue(LET, 0, i, 0);
        }
        CHECK.due("the sixtieth", x.cue(LET, 0, 59, 0), 59);
        CHECK.due("a sixty-first", x.cue(LET, 0, 60, 0), FULL);
        CHECK.due("cues", x.count(7), 60);
        x.run(100);
        CHECK.due("the sixtieth was the last", x.desk(0), 59);
        CHECK.due("clear", x.clear(), 60);
        CHECK.due("a first one again", x.cue(LET, 0, 60, 0), 0);
    }

    @Edges.Says(in = "Promise 21", words = "(HOLD of a number that no STAND has is none.)")
    static void holdOfNone() {
        for (int number : new int[] {3, 4, 23}) {
            RehearsalDesk x = desk(c(HOLD, 0, 2), c(HOLD, 0, number), c(CALL, 0, 0));
            CHECK.due("hold of " + number, x.run(100), 10);
            CHECK.due("is none", x.desk(8), -1);
        }
        RehearsalDesk full = desk(c(HOLD, 0, 23));
        for (int i = 3; i < 24; i++) {
            CHECK.due("run", full.run(100), 0);
            CHECK.due("with " + i + " stands", full.desk(8), -1);
            full.stand(0, -1);
        }
        CHECK.due("run", full.run(100), 0);
        CHECK.due("with all of them", full.desk(8), 23);
    }

    // ---- promise 22

    @Edges.Says(in = "Promise 22", words = "There are no CUES: how many there were.")
    static void clearing() {
        RehearsalDesk x = new RehearsalDesk();
        CHECK.due("none yet", x.clear(), 0);
        for (int size = 1; size <= 60; size += 59) {
            for (int i = 0; i < size; i++) {
                x.cue(FAIL, 0, 0, 0);
            }
            CHECK.due("clear", x.clear(), size);
            CHECK.due("cues", x.count(7), 0);
            CHECK.due("there is none to do", x.run(1), 0);
            CHECK.due("none was done", x.count(8), 0);
            CHECK.due("none any more", x.clear(), 0);
        }
    }

    // ---- promise 23

    @Edges.Says(in = "Promise 23", words = "A RUN of at most n CUES (1 .. 1000),")
    static void runOf() {
        RehearsalDesk x = desk(c(GO, 0));
        CHECK.due("one", x.run(1), SPENT);
        CHECK.due("done", x.count(8), 1);
        CHECK.due("a thousand", x.run(1000), SPENT);
        CHECK.due("done", x.count(8), 1001);
    }

    @Edges.Says(in = "Promise 23", words = "WHOLES 0, STANDS none at first:")
    static void runBegins() {
        RehearsalDesk x = desk(c(LET, 0, 1), c(LET, 7, 1), c(LET, 6, 1), c(HOLD, 0, 0), c(HOLD, 3, 0));
        x.run(100);
        CHECK.row("as it left it", Check.desk(x), 1, 0, 0, 0, 0, 0, 1, 1, 0, -1, -1, 0);
        CHECK.retell(x, c(TELL, 0));
        x.run(100);
        CHECK.row("as the next began", Check.desk(x), 0, 0, 0, 0, 0, 0, 0, 0, -1, -1, -1, -1);
        CHECK.due("it told", x.told(0), 0);
        CHECK.retell(x, c(LET, 0, 1), c(HOLD, 0, 0));
        x.run(100);
        x.clear();
        x.run(1);
        CHECK.row("one without cues begins too", Check.desk(x), 0, 0, 0, 0, 0, 0, 0, 0, -1, -1, -1, -1);
    }

    @Edges.Says(in = "Promise 23", words = "0; 1 more than the KIND; SPENT.")
    static void runAnswers() {
        CHECK.due("it came behind the last one", run(c(LET, 0, 0)), 0);
        CHECK.due("kind 0", run(c(FAIL, 0)), 1);
        CHECK.due("kind 11", run(c(FAIL, 11)), 12);
        CHECK.due("for ever", run(c(GO, 0)), SPENT);
    }

    @Edges.Says(in = "Promise 23", words = "BAD;")
    static void runBad() {
        RehearsalDesk x = desk(c(LET, 0, 1));
        for (int n : Check.beyond(1, 1000)) {
            CHECK.due("run(" + n + ")", x.run(n), BAD);
        }
        CHECK.due("nothing was done", x.count(8), 0);
        CHECK.due("nor begun", x.desk(0), 0);
    }

    @Edges.Says(in = "Promise 23", words = "FULL: RUNS did 20000 CUES or more together.")
    static void runFull() {
        RehearsalDesk x = desk(c(GO, 0));
        for (int i = 0; i < 19; i++) {
            x.run(1000);
        }
        CHECK.due("all but one", x.run(999), SPENT);
        CHECK.due("19999", x.count(8), 19999);
        RehearsalDesk y = desk(c(GO, 0));
        for (int i = 0; i < 20; i++) {
            CHECK.due("run", y.run(1000), SPENT);
        }
        CHECK.due("20000", y.count(8), 20000);
        CHECK.due("no more", y.run(1), FULL);
        CHECK.due("the last one may do more", x.run(1000), SPENT);
        CHECK.due("20999", x.count(8), 20999);
        CHECK.due("no more", x.run(1), FULL);
        CHECK.due("cues that are gone count", x.clear(), 1);
        CHECK.due("nor one without cues", x.run(1000), FULL);
        x.forget();
        CHECK.due("nor when all else is forgotten", x.run(1), FULL);
        CHECK.due("20999", x.count(8), 20999);
    }

    // ---- promise 24

    @Edges.Says(in = "Promise 24",
            words = "A WHOLE of THE DESK (0 .. 7), a STAND's number (8 .. 11: STANDS 0 .. 3; -1), "
            + "as the latest RUN left it.")
    static void deskAnswers() {
        RehearsalDesk x = desk(c(LET, 0, MIN), c(LET, 7, MAX), c(HOLD, 0, 2), c(HOLD, 3, 0), c(FAIL, 1), c(LET, 0, 5));
        CHECK.row("no run yet", Check.desk(x), 0, 0, 0, 0, 0, 0, 0, 0, -1, -1, -1, -1);
        x.run(100);
        CHECK.row("one that failed", Check.desk(x), MIN, 0, 0, 0, 0, 0, 0, MAX, 2, -1, -1, 0);
        x.run(3);
        CHECK.row("one that was spent", Check.desk(x), MIN, 0, 0, 0, 0, 0, 0, MAX, 2, -1, -1, -1);
        x.call(0, 1, 1, 1, 1);
        x.run(0);
        x.clear();
        CHECK.row("whatever came since", Check.desk(x), MIN, 0, 0, 0, 0, 0, 0, MAX, 2, -1, -1, -1);
    }

    @Edges.Says(in = "Promise 24", words = "BAD less 1000 (-1001).")
    static void deskBad() {
        RehearsalDesk x = desk();
        for (int i : Check.beyond(0, 11)) {
            CHECK.due("desk(" + i + ")", x.desk(i), FAR_BAD);
        }
    }

    // ---- promise 25

    @Edges.Says(in = "Promise 25", words = "Number i of those that were TOLD.")
    static void toldAnswers() {
        RehearsalDesk x = desk(c(LET, 0, MIN), c(TELL, 0), c(LET, 0, -1001), c(TELL, 0), c(TELL, 7), c(FAIL, 0));
        x.run(100);
        x.run(2);
        CHECK.row("of all runs, in turn", Check.told(x), MIN, -1001, 0, MIN);
    }

    @Edges.Says(in = "Promise 25", words = "BAD less 1000 (-1001).")
    static void toldBad() {
        RehearsalDesk x = desk(c(TELL, 0));
        CHECK.due("nothing told yet", x.told(0), FAR_BAD);
        x.run(100);
        for (int i : Check.beyond(0, 0)) {
            CHECK.due("told(" + i + ")", x.told(i), FAR_BAD);
        }
        CHECK.due("told(0)", x.told(0), 0);
    }

    // ---- promise 26

    @Edges.Says(in = "Promise 26", words = "How many: 0 FACES, 1 STANDS, 2 RULES, 3 RECORDED CALLS, 4 LOST ones, "
            + "5 EXPECTATIONS, 6 ORDERS, 7 CUES, 8 CUES that RUNS did, 9 numbers TOLD;")
    static void countAnswers() {
        RehearsalDesk x = desk(c(HOLD, 0, 0), c(CALL, 0, 0), c(TELL, 0), c(GO, 1));
        x.rule(0, 0);
        for (int i = 0; i < 5; i++) {
            x.expect(0, 0, 0, 0);
        }
        for (int i = 1; i < 4; i++) {
            x.order(0, i);
        }
        x.run(7);
        CHECK.row("some", Check.counts(x), 2, 3, 1, 2, 0, 5, 3, 4, 7, 2);
        x.run(1000);
        x.run(1000);
        CHECK.row("more", Check.counts(x), 2, 3, 1, 500, 2 + 333 + 333 - 500, 5, 3, 4, 2007, 100);
    }

    @Edges.Says(in = "Promise 26", words = "METHODS of FACE what - 10 (10 .. 21).")
    static void countMethods() {
        RehearsalDesk x = new RehearsalDesk();
        for (int face = 0; face < 12; face++) {
            CHECK.due("face " + face + " is not there yet", x.count(10 + face), BAD);
            x.face(-1);
            CHECK.due("it has none", x.count(10 + face), 0);
            for (int i = 0; i < face % 9; i++) {
                x.method(face, 0, 0, 0, 0);
            }
        }
        for (int face = 0; face < 12; face++) {
            CHECK.due("methods of face " + face, x.count(10 + face), face % 9);
        }
    }

    @Edges.Says(in = "Promise 26", words = "BAD.")
    static void countBad() {
        RehearsalDesk x = new RehearsalDesk();
        for (int i = 0; i < 12; i++) {
            x.face(-1);
        }
        for (int what : Check.beyond(0, 21)) {
            CHECK.due("count(" + what + ")", x.count(what), BAD);
        }
        CHECK.due("a number that wraps around to face 0", x.count(MIN + 10), BAD);
        CHECK.due("count(21)", x.count(21), 0);
    }

    // ---- promise 27

    @Edges.Says(in = "Promise 27", words = "Nothing is RECORDED, LOST, CAUGHT, TOLD;")
    static void forgotten() {
        RehearsalDesk x = desk(c(HOLD, 0, 0), c(CALL, 0, 1), c(TELL, 7), c(GO, 1));
        for (int i = 0; i < 80; i++) {
            x.rule(0, 1);
        }
        x.on(0, 0, 6, 0, 0);
        x.on(0, 1, 6, 0, 0);
        x.on(79, 0, 6, 0, 0);
        x.on(79, 2, 6, 0, 0);
        x.answer(0, 0, 7);
        x.run(1000);
        x.answer(79, 0, 8);
        x.run(1000);
        CHECK.row("ahead of it", new int[] {x.count(3), x.count(4), x.count(9)}, 500, 166, 100);
        CHECK.row("caught", caught(x), 0, 0, 0, 0);
        x.forget();
        CHECK.row("behind it", new int[] {x.count(3), x.count(4), x.count(9)}, 0, 0, 0);
        CHECK.row("nothing caught", caught(x), -1002, -1002, -1002, -1002);
        CHECK.due("nothing recorded", x.recorded(0, 0), FAR_BAD);
        CHECK.due("nothing told", x.told(0), FAR_BAD);
        x.run(2);
        CHECK.due("recorded anew", x.count(3), 1);
        x.run(1000);
        x.run(1000);
        CHECK.row("as many again", new int[] {x.count(3), x.count(4), x.count(9)}, 500, 167, 100);
        CHECK.row("caught again by the one that takes them", caught(x), -1002, -1002, 0, 0);
    }

    private static int[] caught(RehearsalDesk x) {
        return new int[] {x.caught(0, 0), x.caught(0, 1), x.caught(79, 0), x.caught(79, 2)};
    }

    @Edges.Says(in = "Promise 27", words = "each RULE's next CALL is its first;")
    static void firstAgain() {
        RehearsalDesk x = desk();
        for (int i = 0; i < 80; i++) {
            x.rule(0, 1);
            x.on(i, 0, 1, i, 0);
        }
        for (int rule = 0; rule <= 79; rule += 79) {
            x.answer(rule, 0, 100);
            x.answer(rule, 0, 101);
            x.answer(rule, 0, 102);
        }
        for (int turn = 0; turn < 3; turn++) {
            for (int calls = 0; calls <= turn + 1; calls++) {
                x.call(0, 1, 0, 0, 0);
                CHECK.due("rule 0, call " + calls, x.came(1), 100 + Math.min(calls, 2));
                x.call(0, 1, 79, 0, 0);
                CHECK.due("rule 79, call " + calls, x.came(1), 100 + Math.min(calls, 2));
            }
            x.forget();
        }
    }

    @Edges.Says(in = "Promise 27", words = "LEVELS are 0")
    static void levelsAgain() {
        RehearsalDesk x = new RehearsalDesk();
        x.face(-1);
        x.method(0, 1, 0, 1, 0);
        for (int thing = 0; thing <= 5; thing++) {
            x.stand(0, thing);
            x.call(thing, 0, 200, 0, 0);
        }
        x.forget();
        for (int thing = 0; thing <= 5; thing++) {
            CHECK.due("level " + thing, x.level(thing), 0);
            CHECK.due("it goes up from there", x.call(thing, 0, 255, 0, 0), 0);
        }
    }

    @Edges.Says(in = "Promise 27", words = "(came(), wrong(), desk() tell as before):")
    static void tellAsBefore() {
        RehearsalDesk x = desk(c(LET, 0, 5), c(HOLD, 0, 1), c(HOLD, 3, 2), c(CALL, 0, 4), c(TELL, 7));
        x.expect(0, 0, 1, 1);
        x.beside(1, true);
        CHECK.due("run", x.run(100), 0);
        int[] wrongs = Check.wrongs(x, x.verify());
        CHECK.row("wrongs", wrongs, 1, 0, 0, 4, 0, 0);
        int[] desk = Check.desk(x);
        CHECK.row("desk", desk, 5, 0, 0, 0, 0, 0, 0, 5, 1, -1, -1, 2);
        CHECK.row("came", Check.came(x), 0, 5, -1, -1);
        x.forget();
        CHECK.row("came", Check.came(x), 0, 5, -1, -1);
        CHECK.row("wrongs", Check.wrongs(x, 2), wrongs);
        CHECK.due("no more of them", x.wrong(2, 0), BAD);
        CHECK.row("desk", Check.desk(x), desk);
        CHECK.row("all that was taught is there", Check.counts(x), 2, 3, 0, 0, 0, 1, 0, 5, 5, 0);
        CHECK.due("none beside", x.beside(1, true), 1);
        RehearsalDesk y = desk();
        y.forget();
        CHECK.row("nothing came before", Check.came(y), FAR_BAD, FAR_BAD, FAR_BAD, FAR_BAD);
    }

    @Edges.Says(in = "Promise 27", words = "how many CALLS were RECORDED.")
    static void forgetAnswers() {
        RehearsalDesk x = desk(c(HOLD, 0, 0), c(CALL, 0, 0), c(GO, 1));
        CHECK.due("none", x.forget(), 0);
        x.call(0, 0, 0, 0, 0);
        CHECK.due("one", x.forget(), 1);
        CHECK.due("none any more", x.forget(), 0);
        x.run(1000);
        x.run(10);
        CHECK.due("lost ones", x.count(4), 5);
        CHECK.due("all places", x.forget(), 500);
    }
}
