/** The sentences of part 2 of the terms about rules, and of promises 7 to 10, one test each. */
public final class RulesEdgesTest {
    private static final int BAD = RehearsalDesk.BAD, FULL = RehearsalDesk.FULL;
    private static final int FAR_BAD = -1001, FAR_NOT = -1002;
    private static final int MIN = Check.MIN, MAX = Check.MAX;
    private static final Check CHECK = new Check("RulesEdgesTest");

    public static void main(String[] args) throws ReflectiveOperationException {
        Edges.run(CHECK, RulesEdgesTest.class);
    }

    /**
     * Face 0 has method 0, which takes whole, stand, whole, method 1, which takes a stand, both giving what is told,
     * and method 2, which takes nothing; face 1 is below it, face 2 is not. Stand 0 is plain, 1 watches thing 0, 2 is
     * of face 1, 3 of face 2.
     */
    private static RehearsalDesk desk(int gives) {
        RehearsalDesk x = new RehearsalDesk();
        x.face(-1);
        x.method(0, 3, 2, gives, 255);
        x.method(0, 1, 1, gives, 255);
        x.method(0, 0, 0, 0, 0);
        x.face(0);
        x.face(-1);
        x.stand(0, -1);
        x.stand(0, 0);
        x.stand(1, -1);
        x.stand(2, -1);
        return x;
    }

    /** The same with rule 0 for method 0 of stand 0, which answers a whole. */
    private static RehearsalDesk ruled() {
        RehearsalDesk x = desk(1);
        CHECK.due("its rule", x.rule(0, 0), 0);
        CHECK.due("its answer", x.answer(0, 0, 42), 1);
        return x;
    }

    /** Whether rule 0 takes a call of stand 0's method 0. */
    private static void takes(RehearsalDesk x, int whole, int stand, int last, boolean is) {
        x.call(0, 0, whole, stand, last);
        CHECK.due("the rule of " + whole + ", " + stand + ", " + last, x.came(3), is ? 0 : -1);
    }

    // ---- terms

    @Edges.Says(in = "Terms 2", words = "RULES 0 .. 79, as they come, are of a STAND and a METHOD,")
    static void eightyRules() {
        RehearsalDesk x = desk(1);
        for (int i = 0; i <= 79; i++) {
            CHECK.due("rule " + i, x.rule(i % 3, i % 2), i);
        }
        CHECK.due("an eighty-first", x.rule(0, 0), FULL);
        CHECK.due("answer of rule 79", x.answer(79, 0, 5), 1);
        CHECK.due("answer of rule 80", x.answer(80, 0, 5), BAD);
        x.call(1, 1, -1, 0, 0);
        CHECK.row("rule 79 is of stand 1 and method 1", Check.came(x), 0, 5, -1, 79);
        x.call(1, 0, 0, -1, 0);
        CHECK.due("and of no other method", x.came(3), -1);
        x.call(0, 1, -1, 0, 0);
        CHECK.due("and of no other stand", x.came(3), -1);
    }

    @Edges.Says(in = "Terms 2", words = "with a CONDITION for each PARAMETER: 0 ANY (at first),")
    static void anyAtFirst() {
        RehearsalDesk x = ruled();
        takes(x, MIN, -1, MAX, true);
        takes(x, MAX, 3, MIN, true);
        takes(x, 0, 0, 0, true);
        x.on(0, 0, 1, 5, 0);
        x.on(0, 1, 5, 0, 0);
        x.on(0, 2, 1, 6, 0);
        takes(x, 5, -1, 6, true);
        takes(x, 4, -1, 6, false);
        takes(x, 5, 0, 6, false);
        takes(x, 5, -1, 7, false);
        for (int i = 0; i < 3; i++) {
            CHECK.due("any again", x.on(0, i, 0, MAX, MIN), 1);
        }
        takes(x, 4, 0, 7, true);
    }

    @Edges.Says(in = "Terms 2", words = "1 EQUAL a (a WHOLE, a STAND by its number),")
    static void equal() {
        for (int a : new int[] {MIN, -1, 0, 1, MAX}) {
            RehearsalDesk x = ruled();
            CHECK.due("equal " + a, x.on(0, 0, 1, a, a + 1), 1);
            takes(x, a, -1, 0, true);
            takes(x, a - 1, -1, 0, false);
            takes(x, a + 1, -1, 0, false);
        }
        for (int a = 0; a <= 3; a++) {
            RehearsalDesk x = ruled();
            CHECK.due("equal stand " + a, x.on(0, 1, 1, a, 0), 1);
            for (int stand = -1; stand <= 3; stand++) {
                takes(x, 0, stand, 0, stand == a);
            }
        }
    }

    @Edges.Says(in = "Terms 2", words = "2 BETWEEN a, b (a WHOLE, both with it),")
    static void between() {
        RehearsalDesk x = ruled();
        x.on(0, 2, 2, -3, 9);
        int[] inside = {-3, -2, 0, 8, 9};
        int[] outside = {MIN, -4, 10, MAX};
        for (int value : inside) {
            takes(x, 0, -1, value, true);
        }
        for (int value : outside) {
            takes(x, 0, -1, value, false);
        }
        x.on(0, 2, 2, 5, 5);
        takes(x, 0, -1, 5, true);
        takes(x, 0, -1, 4, false);
        takes(x, 0, -1, 6, false);
        CHECK.due("from above to below", x.on(0, 2, 2, 6, 5), 1);
        takes(x, 0, -1, 5, false);
        takes(x, 0, -1, 6, false);
        x.on(0, 2, 2, MIN, MAX);
        takes(x, 0, -1, MIN, true);
        takes(x, 0, -1, MAX, true);
        x.on(0, 2, 2, MAX, MIN);
        takes(x, 0, -1, MIN, false);
        takes(x, 0, -1, MAX, false);
    }

    @Edges.Says(in = "Terms 2", words = "3 NOT EQUAL a,")
    static void notEqual() {
        for (int a : new int[] {MIN, -1, 0, 1, MAX}) {
            RehearsalDesk x = ruled();
            CHECK.due("not equal " + a, x.on(0, 0, 3, a, a), 1);
            takes(x, a, -1, 0, false);
            takes(x, a - 1, -1, 0, true);
            takes(x, a + 1, -1, 0, true);
        }
        for (int a = 0; a <= 3; a++) {
            RehearsalDesk x = ruled();
            CHECK.due("not equal stand " + a, x.on(0, 1, 3, a, 0), 1);
            for (int stand = -1; stand <= 3; stand++) {
                takes(x, 0, stand, 0, stand != a);
            }
        }
    }

    @Edges.Says(in = "Terms 2", words = "4 OF a FACE a (a STAND that is there and of it),")
    static void ofAFace() {
        boolean[][] due = {{false, true, true, true, false}, {false, false, false, true, false},
            {false, false, false, false, true}};
        for (int face = 0; face <= 2; face++) {
            RehearsalDesk x = ruled();
            CHECK.due("of face " + face, x.on(0, 1, 4, face, 0), 1);
            for (int stand = -1; stand <= 3; stand++) {
                takes(x, 0, stand, 0, due[face][stand + 1]);
            }
        }
    }

    @Edges.Says(in = "Terms 2", words = "5 NONE (a STAND that is none),")
    static void none() {
        RehearsalDesk x = ruled();
        x.on(0, 1, 5, 0, 0);
        for (int stand = -1; stand <= 3; stand++) {
            takes(x, 0, stand, 0, stand == -1);
        }
    }

    @Edges.Says(in = "Terms 2", words = "6 CAUGHT (any; the RULE keeps what came with the latest CALL by it).")
    static void caughtKeeps() {
        RehearsalDesk x = ruled();
        for (int i = 0; i < 3; i++) {
            x.on(0, i, 6, 0, 0);
        }
        int[][] calls = {{MIN, -1, MAX}, {0, 3, 0}, {MAX, 0, MIN}, {-1002, -1, -1001}};
        for (int[] c : calls) {
            takes(x, c[0], c[1], c[2], true);
            for (int i = 0; i < 3; i++) {
                CHECK.due("parameter " + i + " of the latest", x.caught(0, i), c[i]);
            }
        }
        x.call(1, 0, 1, 1, 1);
        CHECK.due("another stand's call is not by it", x.caught(0, 0), -1002);
        x.call(0, 1, 1, 1, 1);
        CHECK.due("another method's call is not by it", x.caught(0, 1), -1);
        x.rule(0, 0);
        x.answer(1, 0, 1);
        x.call(0, 0, 7, 1, 7);
        CHECK.due("a later rule's call is not by it", x.caught(0, 2), -1001);
    }

    @Edges.Says(in = "Terms 2", words = "And a row of up to 6 ANSWERS:")
    static void sixAnswers() {
        RehearsalDesk x = desk(1);
        x.rule(0, 0);
        x.rule(0, 1);
        for (int i = 1; i <= 6; i++) {
            CHECK.due("answer " + i, x.answer(0, 0, 10 * i), i);
        }
        CHECK.due("a seventh", x.answer(0, 0, 70), FULL);
        CHECK.due("the other rule's first", x.answer(1, 0, 99), 1);
        for (int i = 1; i <= 8; i++) {
            x.call(0, 0, 0, -1, 0);
            CHECK.due("call " + i, x.came(1), 10 * Math.min(i, 6));
        }
        x.call(0, 1, -1, 0, 0);
        CHECK.due("the other rule's", x.came(1), 99);
    }

    private static int given(int gives, int answer, int v, int whole, int stand, int last) {
        RehearsalDesk x = desk(gives);
        x.rule(0, 0);
        CHECK.due("answer " + answer + ", " + v, x.answer(0, answer, v), 1);
        x.call(0, 0, whole, stand, last);
        CHECK.due("by its rule", x.came(3), 0);
        return x.came(1);
    }

    @Edges.Says(in = "Terms 2", words = "0 a WHOLE v;")
    static void answerWhole() {
        for (int v : new int[] {MIN, -1001, -1, 0, 1, MAX}) {
            CHECK.due("whole " + v, given(1, 0, v, 5, 0, 6), v);
        }
    }

    @Edges.Says(in = "Terms 2", words = "1 a STAND v (-1: none);")
    static void answerStand() {
        for (int v = -1; v <= 3; v++) {
            CHECK.due("stand " + v, given(2, 1, v, 5, 0, 6), v);
        }
    }

    @Edges.Says(in = "Terms 2", words = "2 FAIL with KIND v;")
    static void answerFail() {
        for (int kind = 0; kind <= 7; kind++) {
            RehearsalDesk x = desk(1);
            x.rule(0, 0);
            x.answer(0, 2, kind);
            CHECK.due("it fails", x.call(0, 0, 5, 0, 6), 1);
            CHECK.row("with kind " + kind, Check.came(x), 1, 0, kind, 0);
        }
    }

    @Edges.Says(in = "Terms 2", words = "3 the sum (going round) of v and all WHOLES of the call;")
    static void answerSum() {
        CHECK.due("all wholes, no stand", given(1, 3, 100, 10, 3, 1), 111);
        CHECK.due("round above", given(1, 3, MAX, 1, -1, 0), MIN);
        CHECK.due("round above by what came", given(1, 3, 1, 0, -1, MAX), MIN);
        CHECK.due("round below", given(1, 3, MIN, -1, -1, 0), MAX);
        CHECK.due("round to -1", given(1, 3, MAX, MAX, -1, 1), -1);
        CHECK.due("round to 0", given(1, 3, 0, MIN, -1, MIN), 0);
        CHECK.due("not round", given(1, 3, 1, MAX, -1, -1), MAX);
        CHECK.due("nothing to add", given(1, 3, -7, 0, 3, 0), -7);
        RehearsalDesk x = new RehearsalDesk();
        x.face(-1);
        x.method(0, 0, 0, 1, 0);
        x.stand(0, -1);
        x.rule(0, 0);
        x.answer(0, 3, 8);
        x.call(0, 0, 1, 2, 3);
        CHECK.due("of a method without parameters", x.came(1), 8);
    }

    @Edges.Says(in = "Terms 2", words = "4 what came for PARAMETER v;")
    static void answerParameter() {
        CHECK.due("the first, a whole", given(1, 4, 0, MIN, 2, MAX), MIN);
        CHECK.due("the last, a whole", given(1, 4, 2, MIN, 2, MAX), MAX);
        CHECK.due("the stand", given(2, 4, 1, 1, 3, 2), 3);
        CHECK.due("the stand that is none", given(2, 4, 1, 1, -1, 2), -1);
        CHECK.due("the stand, where a whole is given", given(1, 4, 1, 1, 3, 2), 0);
        CHECK.due("the whole, where a stand is given", given(2, 4, 2, 1, 3, 2), -1);
    }

    @Edges.Says(in = "Terms 2", words = "5 THROUGH (of a PLAIN STAND it is UNTAUGHT, though by THE RULE).")
    static void answerThrough() {
        int[] plain = {0, 0, -1};
        int[] watching = {0, 11, -1};
        for (int gives = 0; gives <= 2; gives++) {
            RehearsalDesk x = desk(gives);
            x.rule(0, 0);
            x.rule(1, 0);
            x.answer(0, 5, MAX);
            x.answer(1, 5, MIN);
            CHECK.due("of a plain stand", x.call(0, 0, 5, -1, 6), 3);
            CHECK.row("untaught, by its rule", Check.came(x), 3, plain[gives], -1, 0);
            CHECK.due("of one that watches", x.call(1, 0, 5, -1, 6), 0);
            CHECK.row("through, by its rule", Check.came(x), 0, watching[gives], -1, 1);
            CHECK.due("level", x.level(0), 11);
            CHECK.due("beyond", x.call(1, 0, 245, -1, 0), 1);
            CHECK.row("it fails by its rule", Check.came(x), 1, plain[gives], 7, 1);
            CHECK.due("level", x.level(0), 11);
        }
    }

    // ---- promise 7

    @Edges.Says(in = "Promise 7", words = "A RULE for a METHOD of a STAND: its number.")
    static void ruleNumbers() {
        RehearsalDesk x = desk(1);
        CHECK.due("of the first stand and method", x.rule(0, 0), 0);
        CHECK.due("of the last method", x.rule(0, 2), 1);
        CHECK.due("of a method from above", x.rule(2, 2), 2);
        CHECK.due("the same once more", x.rule(0, 0), 3);
        CHECK.due("rules", x.count(2), 4);
    }

    @Edges.Says(in = "Promise 7", words = "BAD;")
    static void ruleBad() {
        RehearsalDesk x = desk(1);
        for (int stand : Check.beyond(0, 3)) {
            CHECK.due("of stand " + stand, x.rule(stand, 0), BAD);
        }
        for (int method : Check.beyond(0, 2)) {
            CHECK.due("of method " + method, x.rule(0, method), BAD);
            CHECK.due("of method " + method + " from above", x.rule(2, method), BAD);
        }
        CHECK.due("of a face without methods", x.rule(3, 0), BAD);
        CHECK.due("rules", x.count(2), 0);
    }

    @Edges.Says(in = "Promise 7", words = "FULL.")
    static void ruleFull() {
        RehearsalDesk x = desk(1);
        for (int i = 0; i < 79; i++) {
            x.rule(0, 0);
        }
        CHECK.due("the eightieth", x.rule(2, 1), 79);
        CHECK.due("an eighty-first", x.rule(0, 0), FULL);
        CHECK.due("of another stand too", x.rule(1, 2), FULL);
        CHECK.due("rules", x.count(2), 80);
    }

    // ---- promise 8

    @Edges.Says(in = "Promise 8", words = "A CONDITION of a RULE for a PARAMETER (what was CAUGHT there is gone): 1.")
    static void onLetsGo() {
        for (int condition = 0; condition <= 6; condition++) {
            RehearsalDesk x = ruled();
            for (int i = 0; i < 3; i++) {
                x.on(0, i, 6, 0, 0);
            }
            takes(x, 7, 2, 8, true);
            int i = condition == 4 || condition == 5 ? 1 : 0;
            CHECK.due("condition " + condition, x.on(0, i, condition, 2, 9), 1);
            CHECK.due("it is gone", x.caught(0, i), FAR_NOT);
            CHECK.due("that of another parameter is not", x.caught(0, 1 - i), i == 0 ? 2 : 7);
            CHECK.due("nor that of the last", x.caught(0, 2), 8);
            CHECK.due("caught anew", x.on(0, i, 6, 0, 0), 1);
            CHECK.due("it is gone still", x.caught(0, i), FAR_NOT);
        }
        RehearsalDesk x = ruled();
        x.rule(0, 1);
        x.answer(1, 0, 1);
        x.on(0, 0, 6, 0, 0);
        x.on(1, 0, 6, 0, 0);
        x.call(0, 0, 7, -1, 0);
        x.call(0, 1, 2, 0, 0);
        x.on(1, 0, 0, 0, 0);
        CHECK.due("that of another rule is not gone", x.caught(0, 0), 7);
    }

    @Edges.Says(in = "Promise 8", words = "BAD: no such RULE, PARAMETER, condition 0 .. 6;")
    static void onNoSuch() {
        RehearsalDesk x = desk(1);
        CHECK.due("no rule is there yet", x.on(0, 0, 0, 0, 0), BAD);
        x.rule(0, 0);
        x.rule(0, 1);
        x.rule(0, 2);
        for (int rule : Check.beyond(0, 2)) {
            CHECK.due("rule " + rule, x.on(rule, 0, 0, 0, 0), BAD);
        }
        for (int i : Check.beyond(0, 2)) {
            CHECK.due("parameter " + i + " of three", x.on(0, i, 0, 0, 0), BAD);
        }
        for (int i : Check.beyond(0, 0)) {
            CHECK.due("parameter " + i + " of one", x.on(1, i, 0, 0, 0), BAD);
        }
        CHECK.due("a parameter of none", x.on(2, 0, 0, 0, 0), BAD);
        for (int condition : Check.beyond(0, 6)) {
            CHECK.due("condition " + condition + " of a whole", x.on(0, 0, condition, 0, 0), BAD);
            CHECK.due("condition " + condition + " of a stand", x.on(0, 1, condition, 0, 0), BAD);
        }
        CHECK.due("condition 0", x.on(0, 2, 0, 0, 0), 1);
        CHECK.due("condition 6", x.on(0, 2, 6, 0, 0), 1);
    }

    @Edges.Says(in = "Promise 8", words = "2 of a STAND, 4, 5 of a WHOLE;")
    static void onOfTheOther() {
        RehearsalDesk x = desk(1);
        x.rule(0, 0);
        int[] ofWhole = {1, 1, 1, 1, BAD, BAD, 1};
        int[] ofStand = {1, 1, BAD, 1, 1, 1, 1};
        for (int condition = 0; condition <= 6; condition++) {
            CHECK.due(condition + " of the first whole", x.on(0, 0, condition, 0, 0), ofWhole[condition]);
            CHECK.due(condition + " of the stand", x.on(0, 1, condition, 0, 0), ofStand[condition]);
            CHECK.due(condition + " of the last whole", x.on(0, 2, condition, 0, 0), ofWhole[condition]);
        }
    }

    @Edges.Says(in = "Promise 8", words = "a of 1, 3 of a STAND not a STAND's number,")
    static void onNoStand() {
        RehearsalDesk x = desk(1);
        x.rule(0, 0);
        for (int condition = 1; condition <= 3; condition += 2) {
            CHECK.due("the first stand", x.on(0, 1, condition, 0, MIN), 1);
            CHECK.due("the last stand", x.on(0, 1, condition, 3, MAX), 1);
            for (int a : Check.beyond(0, 3)) {
                CHECK.due(condition + " of stand " + a, x.on(0, 1, condition, a, 0), BAD);
                CHECK.due(condition + " of whole " + a, x.on(0, 0, condition, a, 0), 1);
            }
        }
        x.stand(0, -1);
        CHECK.due("a stand that came since", x.on(0, 1, 1, 4, 0), 1);
    }

    @Edges.Says(in = "Promise 8", words = "of 4 no FACE.")
    static void onNoFace() {
        RehearsalDesk x = desk(1);
        x.rule(0, 0);
        CHECK.due("the first face", x.on(0, 1, 4, 0, MIN), 1);
        CHECK.due("the last face", x.on(0, 1, 4, 2, MAX), 1);
        for (int a : Check.beyond(0, 2)) {
            CHECK.due("face " + a, x.on(0, 1, 4, a, 0), BAD);
        }
        x.face(-1);
        CHECK.due("a face that came since", x.on(0, 1, 4, 3, 0), 1);
    }

    @Edges.Says(in = "Promise 8", words = "(What a condition does not use does not matter.)")
    static void onUnused() {
        RehearsalDesk x = desk(1);
        x.rule(0, 0);
        for (int odd : new int[] {MIN, -1, 4, 24, MAX}) {
            CHECK.due("any whole, a and b", x.on(0, 0, 0, odd, odd), 1);
            CHECK.due("equal whole, b", x.on(0, 0, 1, 0, odd), 1);
            CHECK.due("not equal whole, b", x.on(0, 0, 3, 0, odd), 1);
            CHECK.due("caught whole, a and b", x.on(0, 0, 6, odd, odd), 1);
            CHECK.due("any stand, a and b", x.on(0, 1, 0, odd, odd), 1);
            CHECK.due("equal stand, b", x.on(0, 1, 1, 0, odd), 1);
            CHECK.due("not equal stand, b", x.on(0, 1, 3, 0, odd), 1);
            CHECK.due("of a face, b", x.on(0, 1, 4, 0, odd), 1);
            CHECK.due("none, a and b", x.on(0, 1, 5, odd, odd), 1);
            CHECK.due("caught stand, a and b", x.on(0, 1, 6, odd, odd), 1);
        }
    }

    // ---- promise 9

    @Edges.Says(in = "Promise 9", words = "An ANSWER more of a RULE: how many.")
    static void answerNumbers() {
        RehearsalDesk x = desk(1);
        x.rule(0, 0);
        x.rule(0, 0);
        CHECK.due("its first", x.answer(0, 0, 0), 1);
        CHECK.due("its second", x.answer(0, 0, 0), 2);
        CHECK.due("another's first", x.answer(1, 0, 0), 1);
    }

    @Edges.Says(in = "Promise 9", words = "BAD: no such RULE, answer 0 .. 5;")
    static void answerNoSuch() {
        RehearsalDesk x = desk(1);
        CHECK.due("no rule is there yet", x.answer(0, 0, 0), BAD);
        x.rule(0, 0);
        x.rule(0, 0);
        for (int rule : Check.beyond(0, 1)) {
            CHECK.due("rule " + rule, x.answer(rule, 0, 0), BAD);
        }
        for (int answer : Check.beyond(0, 5)) {
            CHECK.due("answer " + answer, x.answer(0, answer, 0), BAD);
        }
        for (int answer = 0; answer <= 5; answer++) {
            CHECK.due("answer " + answer, x.answer(0, answer, 0), answer + 1);
        }
    }

    @Edges.Says(in = "Promise 9", words = "v of 1 not -1, nor a STAND's number,")
    static void answerNoStand() {
        RehearsalDesk x = desk(2);
        x.rule(0, 0);
        for (int v : Check.beyond(-1, 3)) {
            CHECK.due("stand " + v, x.answer(0, 1, v), BAD);
        }
        CHECK.due("none", x.answer(0, 1, -1), 1);
        CHECK.due("the first stand", x.answer(0, 1, 0), 2);
        CHECK.due("the last stand", x.answer(0, 1, 3), 3);
        x.stand(0, -1);
        CHECK.due("a stand that came since", x.answer(0, 1, 4), 4);
    }

    @Edges.Says(in = "Promise 9", words = "of 2 not 0 .. 7,")
    static void answerNoKind() {
        RehearsalDesk x = desk(1);
        x.rule(0, 0);
        for (int v : Check.beyond(0, 7)) {
            CHECK.due("kind " + v, x.answer(0, 2, v), BAD);
        }
        CHECK.due("kind 0", x.answer(0, 2, 0), 1);
        CHECK.due("kind 7", x.answer(0, 2, 7), 2);
    }

    @Edges.Says(in = "Promise 9", words = "of 4 no PARAMETER;")
    static void answerNoParameter() {
        RehearsalDesk x = desk(1);
        for (int method = 0; method <= 2; method++) {
            x.rule(0, method);
        }
        for (int v : Check.beyond(0, 2)) {
            CHECK.due("parameter " + v + " of three", x.answer(0, 4, v), BAD);
        }
        for (int v : Check.beyond(0, 0)) {
            CHECK.due("parameter " + v + " of one", x.answer(1, 4, v), BAD);
        }
        CHECK.due("a parameter of none", x.answer(2, 4, 0), BAD);
        CHECK.due("the first of three", x.answer(0, 4, 0), 1);
        CHECK.due("the last of three", x.answer(0, 4, 2), 2);
        CHECK.due("the only one", x.answer(1, 4, 0), 1);
    }

    @Edges.Says(in = "Promise 9", words = "FULL.")
    static void answerFull() {
        RehearsalDesk x = desk(1);
        x.rule(0, 0);
        for (int i = 0; i < 5; i++) {
            x.answer(0, 0, i);
        }
        CHECK.due("the sixth", x.answer(0, 5, 0), 6);
        for (int answer = 0; answer <= 5; answer++) {
            CHECK.due("a seventh, " + answer, x.answer(0, answer, 0), FULL);
        }
    }

    // ---- promise 10

    @Edges.Says(in = "Promise 10",
            words = "What a RULE's CONDITION CAUGHT for a PARAMETER (a WHOLE; a STAND's number, -1: none).")
    static void caughtAnswers() {
        RehearsalDesk x = ruled();
        for (int i = 0; i < 3; i++) {
            x.on(0, i, 6, 0, 0);
        }
        takes(x, MIN, -1, MAX, true);
        CHECK.due("the lowest whole", x.caught(0, 0), MIN);
        CHECK.due("no stand", x.caught(0, 1), -1);
        CHECK.due("the highest whole", x.caught(0, 2), MAX);
        takes(x, -1, 3, 0, true);
        CHECK.due("a whole -1", x.caught(0, 0), -1);
        CHECK.due("the last stand", x.caught(0, 1), 3);
    }

    @Edges.Says(in = "Promise 10", words = "NOT: it is no such, or nothing came yet.")
    static void caughtNot() {
        RehearsalDesk x = ruled();
        takes(x, 7, 2, 8, true);
        for (int condition = 0; condition <= 5; condition++) {
            int i = condition == 4 || condition == 5 ? 1 : 0;
            CHECK.due("condition " + condition, x.on(0, i, condition, 2, 9), 1);
            CHECK.due("it is no such", x.caught(0, i), FAR_NOT);
        }
        x.on(0, 1, 6, 0, 0);
        CHECK.due("nothing came since it is one", x.caught(0, 1), FAR_NOT);
        x.on(0, 0, 1, 5, 0);
        takes(x, 4, 2, 8, false);
        CHECK.due("a call that is not by the rule", x.caught(0, 1), FAR_NOT);
        CHECK.due("a refused call", x.call(0, 0, 5, 4, 8), BAD);
        CHECK.due("is none", x.caught(0, 1), FAR_NOT);
        x.rule(1, 0);
        x.on(1, 0, 6, 0, 0);
        x.call(1, 0, 9, -1, 0);
        CHECK.due("a rule without answers takes no calls", x.caught(1, 0), FAR_NOT);
    }

    @Edges.Says(in = "Promise 10", words = "BAD. (BAD less 1000, -1001; NOT -1002.)")
    static void caughtBad() {
        RehearsalDesk x = desk(1);
        CHECK.due("no rule is there yet", x.caught(0, 0), FAR_BAD);
        x.rule(0, 0);
        x.rule(0, 1);
        x.rule(0, 2);
        for (int rule : Check.beyond(0, 2)) {
            CHECK.due("rule " + rule, x.caught(rule, 0), FAR_BAD);
        }
        for (int i : Check.beyond(0, 2)) {
            CHECK.due("parameter " + i + " of three", x.caught(0, i), FAR_BAD);
        }
        for (int i : Check.beyond(0, 0)) {
            CHECK.due("parameter " + i + " of one", x.caught(1, i), FAR_BAD);
        }
        CHECK.due("a parameter of none", x.caught(2, 0), FAR_BAD);
        CHECK.due("the last of three", x.caught(0, 2), FAR_NOT);
    }
}
