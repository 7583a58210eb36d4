/** Promises 14 to 20: expect, with, order, beside, met, verify, wrong. */
public final class ExpectationsTest {
    private static final int BAD = RehearsalDesk.BAD, FULL = RehearsalDesk.FULL;
    private static final int MIN = Integer.MIN_VALUE, MAX = Integer.MAX_VALUE;
    private static final Check CHECK = new Check("ExpectationsTest");

    public static void main(String[] args) {
        expectations();
        refusedConditions();
        met();
        metWithStands();
        orders();
        outOfOrder();
        meetingBoth();
        beside();
        numbers();
        wrongCalls();
        wrongsAreAtMostSixty();
        allFiveHundredCalls();
        wrong();
        CHECK.end();
    }

    /** Method 0 takes a whole and a stand and gives a whole, method 1 takes nothing. */
    private static RehearsalDesk desk() {
        RehearsalDesk x = new RehearsalDesk();
        x.face(-1);
        x.method(0, 2, 2, 1, 0);
        x.method(0, 0, 0, 0, 0);
        x.face(0);
        x.stand(0, -1);
        x.stand(0, 5);
        x.stand(1, -1);
        return x;
    }

    private static void expectations() {
        RehearsalDesk x = desk();
        int[][] bad = {
            {3, 0, 0, 0}, {-1, 0, 0, 0}, {MIN, 0, 0, 0}, {0, 2, 0, 0}, {0, -1, 0, 0}, {0, MAX, 0, 0},
            {0, 0, -1, 0}, {0, 0, MIN, MAX}, {0, 0, 1, 0}, {0, 0, 0, -1}, {0, 0, MAX, MIN}, {0, 0, -2, -1},
        };
        for (int[] e : bad) {
            CHECK.due("bad expectation", x.expect(e[0], e[1], e[2], e[3]), BAD);
        }
        CHECK.due("refused", x.count(5), 0);
        for (int i = 0; i < 40; i++) {
            CHECK.due("expectation " + i, x.expect(i % 3, i % 2, 0, i % 2 == 0 ? 0 : MAX), i);
        }
        CHECK.due("beyond 40", x.expect(0, 0, 0, 0), FULL);
        CHECK.due("BAD comes ahead of FULL", x.expect(0, 0, 1, 0), BAD);
        CHECK.due("expectations", x.count(5), 40);
        x.call(1, 1, 0, 0, 0);
        CHECK.due("the last one is met", x.met(37), 1);
        CHECK.due("by its stand alone", x.met(39), 0);
        CHECK.due("none of forty is wrong", x.verify(), 0);
        x.call(1, 0, 0, -1, 0);
        x.call(2, 0, 0, -1, 0);
        CHECK.due("all that are met by one too many", x.verify(), 7 + 6);
    }

    private static void refusedConditions() {
        RehearsalDesk x = desk();
        x.expect(0, 0, 0, 0);
        x.expect(0, 1, 0, 0);
        int[][] bad = {
            {2, 0, 0, 0}, {-1, 0, 0, 0}, {MAX, 0, 0, 0}, {0, 2, 0, 0}, {0, -1, 0, 0}, {1, 0, 0, 0},
            {0, 0, 7, 0}, {0, 0, -1, 0}, {0, 1, 2, 0}, {0, 0, 4, 0}, {0, 0, 5, 0},
            {0, 1, 1, 3}, {0, 1, 1, -1}, {0, 1, 3, 3}, {0, 1, 3, -1}, {0, 1, 4, 2}, {0, 1, 4, -1},
        };
        x.with(0, 0, 1, 5, 0);
        for (int[] w : bad) {
            CHECK.due("bad with " + w[2], x.with(w[0], w[1], w[2], w[3], 0), BAD);
        }
        x.call(0, 0, 5, 0, 0);
        x.call(0, 0, 6, 0, 0);
        CHECK.due("a refused one changes nothing", x.met(0), 1);
        for (int condition : new int[] {0, 1, 2, 3, 6}) {
            CHECK.due("with a whole " + condition, x.with(0, 0, condition, MIN, MAX), 1);
        }
        for (int condition : new int[] {0, 1, 3, 4, 5, 6}) {
            CHECK.due("with a stand " + condition, x.with(0, 1, condition, 1, MIN), 1);
        }
    }

    private static int met(RehearsalDesk x, int i, int condition, int a, int b) {
        CHECK.due("condition taken", x.with(0, i, condition, a, b), 1);
        return x.met(0);
    }

    private static void met() {
        RehearsalDesk x = desk();
        CHECK.due("met(0) of none", x.met(0), BAD);
        x.expect(0, 0, 0, 0);
        CHECK.due("met(-1)", x.met(-1), BAD);
        CHECK.due("met(1)", x.met(1), BAD);
        CHECK.due("met(MAX)", x.met(MAX), BAD);
        CHECK.due("no calls", x.met(0), 0);
        for (int i = 0; i < 10; i++) {
            x.call(0, 0, i, -1, 0);
        }
        x.call(1, 0, 5, -1, 0);
        x.call(0, 1, 5, -1, 0);
        CHECK.due("any", x.met(0), 10);
        CHECK.due("equal", met(x, 0, 1, 3, 0), 1);
        CHECK.due("equal to what did not come", met(x, 0, 1, 10, 0), 0);
        CHECK.due("between", met(x, 0, 2, 3, 5), 3);
        CHECK.due("between none", met(x, 0, 2, 5, 3), 0);
        CHECK.due("not equal", met(x, 0, 3, 3, 0), 9);
        CHECK.due("caught", met(x, 0, 6, 3, 0), 10);
        CHECK.due("any again", met(x, 0, 0, 3, 0), 10);
        x.forget();
        CHECK.due("forgotten", x.met(0), 0);
    }

    private static void metWithStands() {
        RehearsalDesk x = desk();
        x.expect(0, 0, 0, 0);
        for (int stand = -1; stand < 3; stand++) {
            x.call(0, 0, 0, stand, 0);
        }
        CHECK.due("any", x.met(0), 4);
        CHECK.due("equal", met(x, 1, 1, 0, 0), 1);
        CHECK.due("not equal", met(x, 1, 3, 0, 0), 3);
        CHECK.due("of face 0", met(x, 1, 4, 0, 0), 3);
        CHECK.due("of face 1", met(x, 1, 4, 1, 0), 1);
        CHECK.due("none", met(x, 1, 5, 0, 0), 1);
        CHECK.due("caught", met(x, 1, 6, 0, 0), 4);
        CHECK.due("both conditions", met(x, 0, 1, 1, 0), 0);
    }

    private static void orders() {
        RehearsalDesk x = desk();
        x.expect(0, 0, 0, 9);
        x.expect(0, 1, 0, 9);
        CHECK.due("order(0, 0)", x.order(0, 0), BAD);
        CHECK.due("order(0, 2)", x.order(0, 2), BAD);
        CHECK.due("order(2, 0)", x.order(2, 0), BAD);
        CHECK.due("order(-1, 0)", x.order(-1, 0), BAD);
        CHECK.due("order(0, -1)", x.order(0, -1), BAD);
        CHECK.due("order(MIN, MAX)", x.order(MIN, MAX), BAD);
        CHECK.due("refused", x.count(6), 0);
        for (int i = 0; i < 40; i++) {
            CHECK.due("order " + i, x.order(0, 1), i + 1);
        }
        CHECK.due("beyond 40", x.order(1, 0), FULL);
        CHECK.due("BAD comes ahead of FULL", x.order(1, 1), BAD);
        CHECK.due("orders", x.count(6), 40);
    }

    private static void outOfOrder() {
        RehearsalDesk x = desk();
        x.expect(0, 0, 0, 9);
        x.with(0, 0, 1, 1, 0);
        x.expect(0, 0, 0, 9);
        x.with(1, 0, 1, 2, 0);
        x.order(0, 1);
        CHECK.due("no calls", x.verify(), 0);
        x.call(0, 0, 2, -1, 0);
        CHECK.due("only the second", x.verify(), 0);
        x.forget();
        x.call(0, 0, 1, -1, 0);
        CHECK.due("only the first", x.verify(), 0);
        x.call(0, 0, 2, -1, 0);
        x.call(0, 0, 2, -1, 0);
        CHECK.due("in order", x.verify(), 0);
        x.expect(0, 1, 0, 9);
        x.call(0, 1, 0, 0, 0);
        x.call(0, 0, 1, -1, 0);
        CHECK.row("out of order", Check.wrongs(x, x.verify()), 3, 0, 1);
        x.call(0, 0, 2, -1, 0);
        x.call(0, 0, 1, -1, 0);
        CHECK.row("the first of the second", Check.wrongs(x, x.verify()), 3, 0, 1);
        x.order(1, 2);
        x.order(1, 0);
        x.order(2, 1);
        x.order(0, 2);
        CHECK.row("order by order", Check.wrongs(x, x.verify()), 3, 0, 1, 3, 1, 3, 3, 2, 0, 3, 3, 1, 3, 4, 3);
        x.forget();
        x.call(0, 0, 2, -1, 0);
        CHECK.due("what was forgotten comes behind nothing", x.verify(), 0);
        x.call(0, 1, 0, 0, 0);
        CHECK.row("only the third behind the second", Check.wrongs(x, x.verify()), 3, 3, 0);
    }

    private static void meetingBoth() {
        RehearsalDesk x = desk();
        x.expect(0, 0, 0, 9);
        x.expect(0, 0, 0, 9);
        x.order(0, 1);
        x.order(1, 0);
        x.call(0, 0, 1, -1, 0);
        CHECK.due("one call is not ahead of itself", x.verify(), 0);
        x.call(0, 0, 1, -1, 0);
        CHECK.row("two are", Check.wrongs(x, x.verify()), 3, 0, 0, 3, 1, 0);
    }

    private static void beside() {
        RehearsalDesk x = desk();
        CHECK.due("beside(3)", x.beside(3, true), BAD);
        CHECK.due("beside(-1)", x.beside(-1, false), BAD);
        CHECK.due("beside(MIN)", x.beside(MIN, true), BAD);
        CHECK.due("it had not", x.beside(1, false), 0);
        CHECK.due("it had not", x.beside(1, true), 0);
        CHECK.due("it had", x.beside(1, true), 1);
        CHECK.due("another had not", x.beside(2, false), 0);
        x.call(1, 1, 0, 0, 0);
        CHECK.row("beside", Check.wrongs(x, x.verify()), 4, 0, 0);
        CHECK.due("it had", x.beside(1, false), 1);
        CHECK.due("it may", x.verify(), 0);
        CHECK.due("it had not", x.beside(1, true), 0);
        x.expect(1, 0, 0, 0);
        CHECK.due("another method's expectation", x.verify(), 1);
        x.expect(0, 1, 0, 0);
        CHECK.due("another stand's expectation", x.verify(), 1);
        x.expect(1, 1, 0, 1);
        CHECK.due("it is expected", x.verify(), 0);
    }

    private static void numbers() {
        RehearsalDesk x = desk();
        x.expect(1, 0, 2, 3);
        x.expect(1, 1, 0, 0);
        int[] due = {1, 1, 0, 0, 2, 2};
        for (int calls = 0; calls < due.length; calls++) {
            if (due[calls] == 0) {
                CHECK.due(calls + " calls", x.verify(), 0);
            } else {
                CHECK.row(calls + " calls", Check.wrongs(x, x.verify()), due[calls], 0, calls);
            }
            x.call(1, 0, 0, -1, 0);
        }
        x.call(1, 1, 0, 0, 0);
        CHECK.row("both", Check.wrongs(x, x.verify()), 2, 0, 6, 2, 1, 1);
    }

    private static void wrongCalls() {
        RehearsalDesk x = desk();
        x.rule(0, 0);
        x.on(0, 0, 1, 1, 0);
        x.answer(0, 2, 0);
        x.rule(0, 0);
        x.on(1, 0, 1, 2, 0);
        x.answer(1, 0, 5);
        x.rule(0, 0);
        x.on(2, 0, 1, 3, 0);
        x.answer(2, 5, 5);
        for (int whole = 0; whole < 4; whole++) {
            x.call(0, 0, whole, -1, 0);
        }
        CHECK.row("untaught, undeclared", Check.wrongs(x, x.verify()), 6, 0, 0, 5, 1, 0, 6, 3, 0);
        x.beside(0, true);
        CHECK.row("none beside", Check.wrongs(x, x.verify()),
                4, 0, 0, 6, 0, 0, 4, 1, 0, 5, 1, 0, 4, 2, 0, 4, 3, 0, 6, 3, 0);
        x.expect(0, 0, 5, 9);
        x.with(0, 0, 2, 0, 1);
        CHECK.row("0 and 1 are expected", Check.wrongs(x, x.verify()),
                1, 0, 2, 5, 1, 0, 4, 2, 0, 4, 3, 0, 6, 3, 0);
        x.with(0, 0, 2, 2, 3);
        CHECK.row("2 and 3 are expected", Check.wrongs(x, x.verify()),
                1, 0, 2, 4, 0, 0, 6, 0, 0, 4, 1, 0, 5, 1, 0);
    }

    private static void wrongsAreAtMostSixty() {
        RehearsalDesk x = desk();
        x.expect(1, 0, 1, 1);
        for (int i = 0; i < 58; i++) {
            x.call(0, 1, 0, 0, 0);
        }
        CHECK.due("59 wrongs", x.verify(), 59);
        x.call(0, 1, 0, 0, 0);
        CHECK.due("60 wrongs", x.verify(), 60);
        CHECK.due("the last", x.wrong(59, 1), 58);
        x.call(0, 1, 0, 0, 0);
        CHECK.due("61 wrongs", x.verify(), 60);
        CHECK.due("the last told", x.wrong(59, 1), 58);
        CHECK.due("none behind it", x.wrong(60, 1), BAD);
        CHECK.due("the first", x.wrong(0, 0), 1);
        x.beside(0, true);
        CHECK.due("120 wrongs", x.verify(), 60);
        CHECK.row("two of a call", new int[] {x.wrong(58, 0), x.wrong(58, 1), x.wrong(59, 0), x.wrong(59, 1)},
                6, 28, 4, 29);
    }

    private static void allFiveHundredCalls() {
        RehearsalDesk x = desk();
        x.expect(0, 1, 0, 499);
        x.expect(0, 0, 0, 9);
        x.order(1, 0);
        x.cue(2, 0, 0, 0);
        x.cue(3, 0, 1, 0);
        x.cue(4, 1, 0, 0);
        x.run(999);
        CHECK.due("499 calls", x.verify(), 0);
        x.call(0, 0, 0, -1, 0);
        CHECK.row("the last is behind", Check.wrongs(x, x.verify()), 3, 0, 0);
        x.call(0, 1, 0, 0, 0);
        CHECK.due("a lost one meets nothing", x.met(0), 499);
        CHECK.due("nor is it wrong", x.verify(), 1);
    }

    private static void wrong() {
        RehearsalDesk x = desk();
        x.expect(0, 0, 1, 1);
        CHECK.due("none found yet", x.wrong(0, 0), BAD);
        x.verify();
        CHECK.due("wrong(0, 3)", x.wrong(0, 3), BAD);
        CHECK.due("wrong(0, -1)", x.wrong(0, -1), BAD);
        CHECK.due("wrong(1, 0)", x.wrong(1, 0), BAD);
        CHECK.due("wrong(-1, 0)", x.wrong(-1, 0), BAD);
        CHECK.due("wrong(MAX, MAX)", x.wrong(MAX, MAX), BAD);
        x.call(0, 0, 1, -1, 0);
        CHECK.row("as found latest", Check.wrongs(x, 1), 1, 0, 0);
        CHECK.due("all is well", x.verify(), 0);
        CHECK.due("nothing is wrong", x.wrong(0, 0), BAD);
    }
}
