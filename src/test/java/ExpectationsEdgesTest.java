/** The sentences of part 3 of the terms and of promises 14 to 20, one test each. */
public final class ExpectationsEdgesTest {
    private static final int BAD = RehearsalDesk.BAD, FULL = RehearsalDesk.FULL;
    private static final int HOLD = 2, CALL = 3, GO = 4;
    private static final int MIN = Check.MIN, MAX = Check.MAX;
    private static final Check CHECK = new Check("ExpectationsEdgesTest");

    public static void main(String[] args) throws ReflectiveOperationException {
        Edges.run(CHECK, ExpectationsEdgesTest.class);
    }

    /**
     * Method 0 takes whole, stand, whole, method 1 nothing; neither may fail. Stand 0 is plain, 1 watches thing 0, 2
     * is plain and of face 1, below face 0.
     */
    private static RehearsalDesk desk() {
        RehearsalDesk x = new RehearsalDesk();
        x.face(-1);
        x.method(0, 3, 2, 1, 0);
        x.method(0, 0, 0, 0, 0);
        x.face(0);
        x.stand(0, -1);
        x.stand(0, 0);
        x.stand(1, -1);
        return x;
    }

    /** Calls that are answered: of stand 1, which watches, with each of the wholes and one that takes it back. */
    private static void call(RehearsalDesk x, int... wholes) {
        for (int whole : wholes) {
            CHECK.due("answered", x.call(1, 0, whole, -1, -whole), 0);
        }
    }

    /** An expectation of such calls with one whole. */
    private static int expect(RehearsalDesk x, int whole, int least, int most) {
        int made = x.expect(1, 0, least, most);
        CHECK.due("its condition", x.with(made, 0, 1, whole, 0), 1);
        return made;
    }

    // ---- terms

    @Edges.Says(in = "Terms 3", words = "EXPECTATIONS 0 .. 39, as they come, are of a STAND and a METHOD,")
    static void fortyExpectations() {
        RehearsalDesk x = desk();
        for (int i = 0; i <= 39; i++) {
            CHECK.due("expectation " + i, x.expect(i % 3, i % 2, 0, 9), i);
        }
        CHECK.due("a forty-first", x.expect(0, 0, 0, 9), FULL);
        x.call(0, 1, 0, 0, 0);
        CHECK.due("39 is of stand 0 and method 1", x.met(39), 1);
        CHECK.due("37 is of another stand", x.met(37), 0);
        CHECK.due("36 is of another method", x.met(36), 0);
        CHECK.due("there is no 40", x.met(40), BAD);
    }

    @Edges.Says(in = "Terms 3", words = "with CONDITIONS as a RULE has (CAUGHT keeps nothing here),")
    static void conditions() {
        RehearsalDesk x = desk();
        for (int i = 0; i < 2; i++) {
            x.rule(0, 0);
            x.answer(i, 0, i);
            x.on(i, 0, 6, 0, 0);
        }
        x.expect(0, 0, 0, 9);
        for (int[] c : new int[][] {{MIN, -1}, {4, 0}, {5, 1}, {6, 2}, {MAX, 2}}) {
            x.call(0, 0, c[0], c[1], 0);
        }
        int[][] conditions = {
            {0, 0, MIN, MAX, 5}, {0, 1, 5, 0, 1}, {0, 1, 7, 0, 0}, {0, 2, 4, 6, 3}, {0, 2, 5, 5, 1}, {0, 2, 6, 4, 0},
            {0, 2, MIN, MAX, 5}, {0, 3, 5, 0, 4}, {0, 6, 0, 0, 5}, {1, 1, 2, 0, 2}, {1, 3, 2, 0, 3}, {1, 4, 0, 0, 4},
            {1, 4, 1, 0, 2}, {1, 5, 0, 0, 1}, {1, 6, 0, 0, 5}, {1, 0, 0, 0, 5},
        };
        CHECK.due("any at first", x.met(0), 5);
        for (int[] c : conditions) {
            for (int i = 0; i < 3; i++) {
                x.with(0, i, 0, 0, 0);
            }
            CHECK.due("condition " + c[1], x.with(0, c[0], c[1], c[2], c[3]), 1);
            CHECK.due("condition " + c[1] + " of " + c[2] + ", " + c[3], x.met(0), c[4]);
        }
        CHECK.due("nothing is kept by it, nor let go", x.caught(1, 0), MAX);
        CHECK.due("nor is anything kept for the rule of its number", x.caught(0, 0), -1002);
    }

    @Edges.Says(in = "Terms 3", words = "and how many RECORDED CALLS are to MEET it at least, at most.")
    static void leastAndMost() {
        for (int least = 0; least <= 2; least++) {
            for (int most = least; most <= 3; most++) {
                RehearsalDesk x = desk();
                x.expect(1, 0, least, most);
                for (int calls = 0; calls <= 4; calls++) {
                    int due = calls < least || calls > most ? 1 : 0;
                    CHECK.due(calls + " of " + least + " .. " + most, x.verify(), due);
                    call(x, 1);
                }
            }
        }
        RehearsalDesk x = desk();
        x.expect(1, 0, 0, MAX);
        x.expect(1, 0, MAX, MAX);
        call(x, 1);
        CHECK.row("as many as can be", Check.wrongs(x, x.verify()), 1, 1, 1);
        x.call(1, 5, 0, 0, 0);
        CHECK.due("a refused call is none", x.met(0), 1);
    }

    @Edges.Says(in = "Terms 3", words = "They may be ORDERED (first, second: "
            + "none that MEETS the second comes ahead of one that MEETS the first), 40 at most.")
    static void fortyOrders() {
        RehearsalDesk x = desk();
        expect(x, 1, 0, 9);
        expect(x, 2, 0, 9);
        for (int i = 1; i <= 40; i++) {
            CHECK.due("order " + i, x.order(i == 40 ? 1 : 0, i == 40 ? 0 : 1), i);
        }
        CHECK.due("a forty-first", x.order(0, 1), FULL);
        call(x, 1);
        CHECK.due("one that meets the first", x.verify(), 0);
        call(x, 2);
        CHECK.row("the fortieth is broken", Check.wrongs(x, x.verify()), 3, 39, 0);
        x.forget();
        call(x, 2, 1);
        CHECK.due("all but the fortieth are broken", x.verify(), 39);
        CHECK.due("the last of them", x.wrong(38, 1), 38);
    }

    @Edges.Says(in = "Terms 3", words = "A STAND may be told to have NONE BESIDE.")
    static void noneBeside() {
        RehearsalDesk x = desk();
        call(x, 1);
        CHECK.due("it may have any at first", x.verify(), 0);
        x.beside(0, true);
        CHECK.due("another has none", x.verify(), 0);
        x.beside(1, true);
        CHECK.row("it has none", Check.wrongs(x, x.verify()), 4, 0, 0);
        expect(x, 2, 0, 9);
        CHECK.row("it does not meet what is expected", Check.wrongs(x, x.verify()), 4, 0, 0);
        expect(x, 1, 0, 9);
        CHECK.due("it meets one that is", x.verify(), 0);
    }

    @Edges.Says(in = "Terms 3", words = "WRONGS, found in this order (60 at most are told):")
    static void sixtyWrongs() {
        RehearsalDesk x = desk();
        for (int i = 0; i < 20; i++) {
            x.expect(1, 0, i % 2 == 0 ? 9 : 0, i % 2 == 0 ? 9 : 1);
        }
        for (int i = 0; i < 20; i++) {
            x.order(i, (i + 1) % 20);
        }
        call(x, 1, 2);
        CHECK.due("forty", x.verify(), 40);
        for (int i = 0; i < 19; i++) {
            x.call(0, 1, 0, 0, 0);
        }
        CHECK.due("fifty-nine", x.verify(), 59);
        x.call(0, 1, 0, 0, 0);
        CHECK.due("sixty", x.verify(), 60);
        x.call(0, 1, 0, 0, 0);
        CHECK.due("sixty-one", x.verify(), 60);
        for (int i = 0; i < 60; i++) {
            int which = i < 20 ? 1 + i % 2 : i < 40 ? 3 : 6;
            CHECK.due("wrong " + i, x.wrong(i, 0), which);
            CHECK.due("of what " + i, x.wrong(i, 1), i < 40 ? i % 20 : i - 40 + 2);
        }
        CHECK.due("there is no sixty-first", x.wrong(60, 0), BAD);
        x.forget();
        CHECK.due("all numbers are found again", x.verify(), 10);
    }

    @Edges.Says(in = "Terms 3", words = "EXPECTATION by EXPECTATION 1 TOO FEW or 2 TOO MANY (with how many);")
    static void tooFewOrTooMany() {
        RehearsalDesk x = desk();
        x.expect(1, 0, 3, 3);
        x.expect(1, 0, 0, 1);
        x.expect(1, 0, 2, 2);
        x.expect(1, 1, 1, 1);
        CHECK.row("none", Check.wrongs(x, x.verify()), 1, 0, 0, 1, 2, 0, 1, 3, 0);
        call(x, 1, 2);
        CHECK.row("two", Check.wrongs(x, x.verify()), 1, 0, 2, 2, 1, 2, 1, 3, 0);
        call(x, 3, 4);
        CHECK.row("four", Check.wrongs(x, x.verify()), 2, 0, 4, 2, 1, 4, 2, 2, 4, 1, 3, 0);
    }

    @Edges.Says(in = "Terms 3", words = "ORDER by ORDER 3 (with the number of the first CALL of the second that one of "
            + "the first comes behind);")
    static void outOfOrder() {
        RehearsalDesk x = desk();
        expect(x, 1, 0, 99);
        expect(x, 2, 0, 99);
        x.order(0, 1);
        CHECK.due("none of either", x.verify(), 0);
        call(x, 2);
        CHECK.due("none of the first", x.verify(), 0);
        x.forget();
        call(x, 1);
        CHECK.due("none of the second", x.verify(), 0);
        call(x, 2);
        CHECK.due("in order", x.verify(), 0);
        call(x, 9, 2, 1);
        CHECK.row("the first of the second, not the latest", Check.wrongs(x, x.verify()), 3, 0, 1);
        call(x, 2, 1);
        CHECK.row("it stays the first", Check.wrongs(x, x.verify()), 3, 0, 1);
        x.order(1, 0);
        CHECK.row("order by order", Check.wrongs(x, x.verify()), 3, 0, 1, 3, 1, 0);
        x.forget();
        call(x, 9, 9, 1);
        CHECK.due("none of the second any more", x.verify(), 0);
        x.forget();
        call(x, 2);
        CHECK.due("none of the first any more", x.verify(), 0);
        x.forget();
        x.with(1, 0, 0, 0, 0);
        call(x, 1);
        CHECK.due("a call that meets both is not behind itself", x.verify(), 0);
        call(x, 1);
        CHECK.row("a second one is behind it", Check.wrongs(x, x.verify()), 3, 0, 0, 3, 1, 0);
    }

    @Edges.Says(in = "Terms 3", words = "then CALL by CALL (each with its number) 4 of a STAND with NONE BESIDE, "
            + "that MEETS no EXPECTATION, 5 that was UNDECLARED, 6 that was UNTAUGHT and MEETS no EXPECTATION "
            + "(of one CALL in this order).")
    static void callByCall() {
        RehearsalDesk x = desk();
        x.rule(0, 0);
        x.on(0, 0, 1, 1, 0);
        x.answer(0, 2, 0);
        x.rule(0, 0);
        x.on(1, 0, 1, 2, 0);
        x.answer(1, 0, 0);
        for (int whole = 0; whole <= 2; whole++) {
            x.call(0, 0, whole, -1, 0);
        }
        CHECK.row("untaught, undeclared, answered", Check.wrongs(x, x.verify()), 6, 0, 0, 5, 1, 0);
        x.beside(0, true);
        CHECK.row("with none beside", Check.wrongs(x, x.verify()), 4, 0, 0, 6, 0, 0, 4, 1, 0, 5, 1, 0, 4, 2, 0);
        x.expect(0, 0, 0, 9);
        CHECK.row("undeclared, though expected", Check.wrongs(x, x.verify()), 5, 1, 0);
        x.with(0, 0, 1, 1, 0);
        CHECK.row("the others are not expected", Check.wrongs(x, x.verify()), 4, 0, 0, 6, 0, 0, 5, 1, 0, 4, 2, 0);
        x.beside(0, false);
        CHECK.row("without none beside", Check.wrongs(x, x.verify()), 6, 0, 0, 5, 1, 0);
        x.expect(0, 0, 9, 9);
        CHECK.row("met by too few, but met", Check.wrongs(x, x.verify()), 1, 1, 3, 5, 1, 0);
    }

    // ---- promise 14

    @Edges.Says(in = "Promise 14", words = "An EXPECTATION: its number.")
    static void expectNumbers() {
        RehearsalDesk x = desk();
        CHECK.due("of the first stand and method", x.expect(0, 0, 0, 0), 0);
        CHECK.due("of the last method", x.expect(0, 1, 0, 0), 1);
        CHECK.due("of the last stand", x.expect(2, 1, 0, 0), 2);
        CHECK.due("the same once more", x.expect(0, 0, 0, 0), 3);
        CHECK.due("expectations", x.count(5), 4);
    }

    @Edges.Says(in = "Promise 14", words = "BAD: also least below 0, most below least;")
    static void expectBad() {
        RehearsalDesk x = desk();
        for (int stand : Check.beyond(0, 2)) {
            CHECK.due("stand " + stand, x.expect(stand, 0, 0, 0), BAD);
        }
        for (int method : Check.beyond(0, 1)) {
            CHECK.due("method " + method, x.expect(0, method, 0, 0), BAD);
        }
        int[][] bad = {{-1, 0}, {-1, -1}, {MIN, MAX}, {MIN, MIN}, {1, 0}, {0, -1}, {MAX, MAX - 1}, {MAX, MIN}, {0, MIN}};
        for (int[] b : bad) {
            CHECK.due("least " + b[0] + ", most " + b[1], x.expect(0, 0, b[0], b[1]), BAD);
        }
        CHECK.due("expectations", x.count(5), 0);
        int[][] good = {{0, 0}, {1, 1}, {0, MAX}, {MAX, MAX}, {MAX - 1, MAX}};
        for (int i = 0; i < good.length; i++) {
            CHECK.due("least " + good[i][0] + ", most " + good[i][1], x.expect(0, 0, good[i][0], good[i][1]), i);
        }
    }

    @Edges.Says(in = "Promise 14", words = "FULL.")
    static void expectFull() {
        RehearsalDesk x = desk();
        for (int i = 0; i < 39; i++) {
            x.expect(0, 0, 0, 0);
        }
        CHECK.due("the fortieth", x.expect(1, 1, 3, 4), 39);
        CHECK.due("a forty-first", x.expect(0, 0, 0, 0), FULL);
        CHECK.due("expectations", x.count(5), 40);
        CHECK.row("the fortieth stays", Check.wrongs(x, x.verify()), 1, 39, 0);
    }

    // ---- promise 15

    @Edges.Says(in = "Promise 15", words = "A CONDITION of an EXPECTATION: as on().")
    static void withAsOn() {
        RehearsalDesk x = desk();
        CHECK.due("no expectation is there yet", x.with(0, 0, 0, 0, 0), BAD);
        x.expect(0, 0, 0, 0);
        x.expect(0, 1, 0, 0);
        for (int expectation : Check.beyond(0, 1)) {
            CHECK.due("expectation " + expectation, x.with(expectation, 0, 0, 0, 0), BAD);
        }
        for (int i : Check.beyond(0, 2)) {
            CHECK.due("parameter " + i, x.with(0, i, 0, 0, 0), BAD);
        }
        CHECK.due("a parameter of none", x.with(1, 0, 0, 0, 0), BAD);
        for (int condition : Check.beyond(0, 6)) {
            CHECK.due("condition " + condition + " of a whole", x.with(0, 0, condition, 0, 0), BAD);
            CHECK.due("condition " + condition + " of a stand", x.with(0, 1, condition, 0, 0), BAD);
        }
        int[] ofWhole = {1, 1, 1, 1, BAD, BAD, 1};
        int[] ofStand = {1, 1, BAD, 1, 1, 1, 1};
        for (int condition = 0; condition <= 6; condition++) {
            CHECK.due(condition + " of the first whole", x.with(0, 0, condition, MIN, MAX), ofWhole[condition]);
            CHECK.due(condition + " of the stand", x.with(0, 1, condition, 0, MIN), ofStand[condition]);
            CHECK.due(condition + " of the last whole", x.with(0, 2, condition, MAX, MIN), ofWhole[condition]);
        }
        for (int a : Check.beyond(0, 2)) {
            CHECK.due("equal stand " + a, x.with(0, 1, 1, a, 0), BAD);
            CHECK.due("not equal stand " + a, x.with(0, 1, 3, a, 0), BAD);
            CHECK.due("none, a " + a, x.with(0, 1, 5, a, a), 1);
        }
        for (int a : Check.beyond(0, 1)) {
            CHECK.due("of face " + a, x.with(0, 1, 4, a, 0), BAD);
        }
        CHECK.due("the last stand", x.with(0, 1, 1, 2, 0), 1);
        CHECK.due("the last face", x.with(0, 1, 4, 1, 0), 1);
    }

    // ---- promise 16

    @Edges.Says(in = "Promise 16", words = "An ORDER of two EXPECTATIONS: how many.")
    static void orderNumbers() {
        RehearsalDesk x = desk();
        for (int i = 0; i < 3; i++) {
            x.expect(0, 0, 0, 0);
        }
        CHECK.due("the first order", x.order(0, 2), 1);
        CHECK.due("the other way round", x.order(2, 0), 2);
        CHECK.due("the same once more", x.order(0, 2), 3);
        CHECK.due("orders", x.count(6), 3);
    }

    @Edges.Says(in = "Promise 16", words = "BAD: also both are one;")
    static void orderBad() {
        RehearsalDesk x = desk();
        CHECK.due("no expectation is there yet", x.order(0, 1), BAD);
        x.expect(0, 0, 0, 0);
        CHECK.due("only one is there", x.order(0, 1), BAD);
        CHECK.due("both are the only one", x.order(0, 0), BAD);
        x.expect(0, 0, 0, 0);
        CHECK.due("both are the last one", x.order(1, 1), BAD);
        for (int beyond : Check.beyond(0, 1)) {
            CHECK.due("first " + beyond, x.order(beyond, 0), BAD);
            CHECK.due("second " + beyond, x.order(0, beyond), BAD);
            CHECK.due("both " + beyond, x.order(beyond, beyond), BAD);
        }
        CHECK.due("orders", x.count(6), 0);
    }

    @Edges.Says(in = "Promise 16", words = "FULL.")
    static void orderFull() {
        RehearsalDesk x = desk();
        x.expect(0, 0, 0, 0);
        x.expect(0, 0, 0, 0);
        for (int i = 0; i < 39; i++) {
            x.order(0, 1);
        }
        CHECK.due("the fortieth", x.order(1, 0), 40);
        CHECK.due("a forty-first", x.order(1, 0), FULL);
        CHECK.due("orders", x.count(6), 40);
    }

    // ---- promise 17

    @Edges.Says(in = "Promise 17", words = "A STAND has NONE BESIDE, or not: whether it had (1, 0).")
    static void besideAnswers() {
        RehearsalDesk x = desk();
        for (int stand = 0; stand <= 2; stand++) {
            CHECK.due("it had not, nor has", x.beside(stand, false), 0);
            CHECK.due("it had not", x.beside(stand, true), 0);
            CHECK.due("it had and has", x.beside(stand, true), 1);
            CHECK.due("it had", x.beside(stand, false), 1);
            CHECK.due("it had not any more", x.beside(stand, true), 0);
        }
    }

    @Edges.Says(in = "Promise 17", words = "BAD.")
    static void besideBad() {
        RehearsalDesk x = new RehearsalDesk();
        CHECK.due("no stand is there yet", x.beside(0, true), BAD);
        x.face(-1);
        x.stand(0, -1);
        for (int stand : Check.beyond(0, 0)) {
            CHECK.due("stand " + stand, x.beside(stand, true), BAD);
            CHECK.due("stand " + stand, x.beside(stand, false), BAD);
        }
        CHECK.due("the one that is there", x.beside(0, true), 0);
    }

    // ---- promise 18

    @Edges.Says(in = "Promise 18", words = "How many RECORDED CALLS MEET an EXPECTATION.")
    static void metAnswers() {
        RehearsalDesk x = desk();
        x.expect(1, 1, 0, 0);
        x.expect(1, 0, 0, 0);
        CHECK.due("none yet", x.met(0), 0);
        CHECK.retell(x, Check.c(HOLD, 0, 1), Check.c(CALL, 0, 1), Check.c(GO, 1));
        x.run(999);
        CHECK.due("499", x.met(0), 499);
        x.call(1, 1, 0, 0, 0);
        CHECK.due("500", x.met(0), 500);
        x.call(1, 1, 0, 0, 0);
        CHECK.due("a lost one does not meet it", x.met(0), 500);
        CHECK.due("none meets the other", x.met(1), 0);
        x.forget();
        CHECK.due("none any more", x.met(0), 0);
    }

    @Edges.Says(in = "Promise 18", words = "BAD.")
    static void metBad() {
        RehearsalDesk x = desk();
        CHECK.due("none is there yet", x.met(0), BAD);
        x.expect(0, 0, 0, 0);
        for (int expectation : Check.beyond(0, 0)) {
            CHECK.due("met(" + expectation + ")", x.met(expectation), BAD);
        }
        CHECK.due("met(0)", x.met(0), 0);
    }

    // ---- promise 19

    @Edges.Says(in = "Promise 19", words = "WRONGS are found: how many (those that are told).")
    static void verifyAnswers() {
        RehearsalDesk x = desk();
        CHECK.due("nothing is expected, nothing came", x.verify(), 0);
        CHECK.retell(x, Check.c(HOLD, 0, 0), Check.c(CALL, 0, 1), Check.c(GO, 1));
        x.run(120);
        CHECK.due("60 calls", x.count(3), 60);
        CHECK.due("60 are found", x.verify(), 60);
        x.run(999);
        CHECK.due("more are found, 60 are told", x.verify(), 60);
        CHECK.due("the last is the sixtieth call", x.wrong(59, 1), 59);
        x.expect(0, 1, 0, MAX);
        CHECK.due("all are expected", x.verify(), 0);
        CHECK.due("those found before are gone", x.wrong(0, 0), BAD);
    }

    // ---- promise 20

    @Edges.Says(in = "Promise 20",
            words = "Of WRONG i, as found latest: 0 which (1 .. 6), 1 the EXPECTATION, the ORDER, the CALL, "
            + "2 how many (1, 2), the CALL (3), else 0.")
    static void wrongAnswers() {
        RehearsalDesk x = desk();
        x.rule(2, 1);
        x.answer(0, 2, 7);
        x.expect(1, 1, 0, 0);
        x.expect(1, 0, 1, 1);
        x.expect(2, 0, 2, 2);
        x.order(1, 2);
        x.order(2, 1);
        x.beside(2, true);
        call(x, 1);
        x.call(2, 0, 0, -1, 0);
        call(x, 1);
        x.call(2, 1, 0, 0, 0);
        x.call(0, 1, 0, 0, 0);
        int[] due = {2, 1, 2, 1, 2, 1, 3, 0, 1, 3, 1, 0, 4, 3, 0, 5, 3, 0, 6, 4, 0};
        CHECK.row("each of them", Check.wrongs(x, x.verify()), due);
        x.forget();
        x.beside(2, false);
        CHECK.row("as found latest, whatever came since", Check.wrongs(x, 7), due);
        CHECK.row("as found now", Check.wrongs(x, x.verify()), 1, 1, 0, 1, 2, 0);
        CHECK.due("no more than that", x.wrong(2, 0), BAD);
    }

    @Edges.Says(in = "Promise 20", words = "BAD.")
    static void wrongBad() {
        RehearsalDesk x = desk();
        x.expect(0, 0, 1, 1);
        CHECK.due("nothing is found yet", x.wrong(0, 0), BAD);
        CHECK.due("one is", x.verify(), 1);
        for (int i : Check.beyond(0, 0)) {
            CHECK.due("wrong " + i, x.wrong(i, 0), BAD);
        }
        for (int what : Check.beyond(0, 2)) {
            CHECK.due("what " + what, x.wrong(0, what), BAD);
        }
        CHECK.due("the last number of it", x.wrong(0, 2), 0);
    }
}
