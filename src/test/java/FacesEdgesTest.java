/** The sentences of part 1 of the terms and of promises 1 to 6, one test each. */
public final class FacesEdgesTest {
    private static final int BAD = RehearsalDesk.BAD, NOT = RehearsalDesk.NOT, FULL = RehearsalDesk.FULL;
    private static final int MIN = Check.MIN, MAX = Check.MAX;
    private static final Check CHECK = new Check("FacesEdgesTest");

    public static void main(String[] args) throws ReflectiveOperationException {
        Edges.run(CHECK, FacesEdgesTest.class);
    }

    /** A face with one method, and a stand of it: plain (-1), or watching a thing. */
    private static RehearsalDesk one(int n, int stands, int gives, int fails, int thing) {
        RehearsalDesk x = new RehearsalDesk();
        x.face(-1);
        CHECK.due("its method", x.method(0, n, stands, gives, fails), 0);
        CHECK.due("its stand", x.stand(0, thing), 0);
        return x;
    }

    // ---- terms

    @Edges.Says(in = "Terms 1", words = "FACES 0 .. 11 have")
    static void twelveFaces() {
        RehearsalDesk x = new RehearsalDesk();
        for (int i = 0; i <= 11; i++) {
            CHECK.due("face " + i, x.face(-1), i);
        }
        CHECK.due("a thirteenth face", x.face(-1), FULL);
        CHECK.due("method of face 11", x.method(11, 0, 0, 0, 0), 0);
        CHECK.due("method of face 12", x.method(12, 0, 0, 0, 0), BAD);
        CHECK.due("stand of face 11", x.stand(11, -1), 0);
        CHECK.due("it is of face 11", x.of(0, 11), 1);
        CHECK.due("and not of face 10", x.of(0, 10), 0);
        CHECK.due("its method", x.call(0, 0, 0, 0, 0), 3);
    }

    @Edges.Says(in = "Terms 1", words = "METHODS 0 .. 7 as they come,")
    static void eightMethods() {
        RehearsalDesk x = new RehearsalDesk();
        x.face(-1);
        x.face(-1);
        for (int i = 0; i <= 7; i++) {
            CHECK.due("method " + i, x.method(0, i % 4, 0, 1, 0), i);
        }
        CHECK.due("a ninth method", x.method(0, 0, 0, 1, 0), FULL);
        CHECK.due("another face's first", x.method(1, 0, 0, 1, 0), 0);
        x.stand(0, -1);
        x.stand(1, -1);
        CHECK.due("method 7 is there", x.call(0, 7, 1, 2, 3), 3);
        CHECK.row("with its own parameters", Check.recorded(x, 0), 0, 7, 1, 2, 3, 3, -1, 0, -1);
        CHECK.due("method 0 is there", x.call(0, 0, 1, 2, 3), 3);
        CHECK.row("without parameters", Check.recorded(x, 1), 0, 0, 0, 0, 0, 3, -1, 0, -1);
        CHECK.due("method 8 is not", x.call(0, 8, 0, 0, 0), BAD);
        CHECK.due("method 1 of the other face is not", x.call(1, 1, 0, 0, 0), BAD);
        CHECK.due("method -1 of the other face is not", x.call(1, -1, 0, 0, 0), BAD);
    }

    @Edges.Says(in = "Terms 1", words = "each with up to three PARAMETERS,")
    static void threeParameters() {
        for (int n = 0; n <= 3; n++) {
            RehearsalDesk x = one(n, 0, 1, 0, -1);
            CHECK.due("its rule", x.rule(0, 0), 0);
            for (int i = 0; i < 3; i++) {
                CHECK.due("parameter " + i + " of " + n, x.on(0, i, 0, 0, 0), i < n ? 1 : BAD);
            }
            CHECK.due("parameter 3 of " + n, x.on(0, 3, 0, 0, 0), BAD);
        }
        RehearsalDesk x = new RehearsalDesk();
        x.face(-1);
        CHECK.due("four parameters", x.method(0, 4, 0, 1, 0), BAD);
        CHECK.due("fewer than none", x.method(0, -1, 0, 1, 0), BAD);
    }

    @Edges.Says(in = "Terms 1", words = "each a WHOLE (an int) or a STAND (told by bits: bit i for PARAMETER i),")
    static void wholesAndStandsByBits() {
        for (int bits = 0; bits < 8; bits++) {
            RehearsalDesk x = one(3, bits, 1, 0, -1);
            x.rule(0, 0);
            for (int i = 0; i < 3; i++) {
                boolean stand = (bits & 1 << i) != 0;
                CHECK.due("bits " + bits + ": " + i + " may be a stand that is none", x.on(0, i, 5, 0, 0), stand ? 1 : BAD);
                CHECK.due("bits " + bits + ": " + i + " may be between", x.on(0, i, 2, 0, 0), stand ? BAD : 1);
            }
        }
        RehearsalDesk x = one(3, 2, 0, 0, -1);
        CHECK.due("any int is a whole", x.call(0, 0, MIN, -1, MAX), 3);
        CHECK.row("it comes so", Check.recorded(x, 0), 0, 0, MIN, -1, MAX, 3, -1, 0, -1);
        CHECK.due("not any int is a stand", x.call(0, 0, 0, MIN, 0), BAD);
    }

    @Edges.Says(in = "Terms 1", words = "with what it GIVES: 0 nothing, 1 a WHOLE, 2 a STAND;")
    static void gives() {
        int[] whole = {0, 42, -1};
        int[] stand = {0, 0, 0};
        for (int gives = 0; gives <= 2; gives++) {
            RehearsalDesk x = one(0, 0, gives, 0, -1);
            x.rule(0, 0);
            x.answer(0, 0, 42);
            x.answer(0, 1, 0);
            x.call(0, 0, 0, 0, 0);
            CHECK.due("gives " + gives + ", told a whole", x.came(1), whole[gives]);
            x.call(0, 0, 0, 0, 0);
            CHECK.due("gives " + gives + ", told a stand", x.came(1), stand[gives]);
        }
    }

    @Edges.Says(in = "Terms 1", words = "and what it may FAIL with: KINDS 0 .. 7, by bits.")
    static void failsByBits() {
        for (int may = 0; may <= 7; may++) {
            RehearsalDesk x = one(1, 0, 1, 1 << may, -1);
            for (int kind = 0; kind <= 7; kind++) {
                x.rule(0, 0);
                x.on(kind, 0, 1, kind, 0);
                CHECK.due("taught to fail", x.answer(kind, 2, kind), 1);
                CHECK.due("bit " + may + ", kind " + kind, x.call(0, 0, kind, 0, 0), kind == may ? 1 : 2);
                CHECK.due("bit " + may + ", the kind", x.came(2), kind == may ? kind : 8);
            }
        }
    }

    @Edges.Says(in = "Terms 1",
            words = "A FACE may be BELOW an earlier one: it has that one's METHODS first, as they were when it came.")
    static void methodsFromAbove() {
        RehearsalDesk x = new RehearsalDesk();
        x.face(-1);
        CHECK.due("below one without methods", x.face(0), 1);
        CHECK.due("it has none", x.count(11), 0);
        x.face(-1);
        for (int i = 0; i < 7; i++) {
            x.method(2, 2, 1, i % 3, 1 << i);
        }
        CHECK.due("below one with seven", x.face(2), 3);
        CHECK.due("it has seven", x.count(13), 7);
        CHECK.due("its own comes behind them", x.method(3, 0, 0, 1, 0), 7);
        CHECK.due("the one above has seven still", x.count(12), 7);
        CHECK.due("below one with eight", x.face(3), 4);
        CHECK.due("it has eight", x.count(14), 8);
        CHECK.due("and takes no more", x.method(4, 0, 0, 1, 0), FULL);
        CHECK.due("one beside it, below the one with seven", x.face(2), 5);
        CHECK.due("it has seven, not eight", x.count(15), 7);
        x.stand(4, -1);
        for (int i = 0; i < 7; i++) {
            x.rule(0, i);
            x.answer(i, 2, i);
            CHECK.due("parameter 0 of method " + i + " is a stand", x.on(i, 0, 5, 0, 0), 1);
            CHECK.due("parameter 1 is a whole", x.on(i, 1, 2, 5, 6), 1);
            CHECK.due("there is no parameter 2", x.on(i, 2, 0, 0, 0), BAD);
            CHECK.due("it may fail with " + i, x.call(0, i, -1, 5, 0), 1);
            CHECK.due("it gives", x.came(1), i % 3 == 2 ? -1 : 0);
        }
        CHECK.due("method 7 takes nothing", x.call(0, 7, 99, 99, 99), 3);
    }

    @Edges.Says(in = "Terms 1", words = "STANDS 0 .. 23 are of a FACE, and of all that it is BELOW;")
    static void twentyFourStands() {
        RehearsalDesk x = new RehearsalDesk();
        for (int i = 0; i < 12; i++) {
            x.face(i - 1);
        }
        for (int i = 0; i <= 23; i++) {
            CHECK.due("stand " + i, x.stand(i % 12, -1), i);
        }
        CHECK.due("a twenty-fifth stand", x.stand(0, -1), FULL);
        for (int stand = 0; stand <= 23; stand++) {
            for (int face = 0; face < 12; face++) {
                CHECK.due("stand " + stand + " of " + face, x.of(stand, face), face <= stand % 12 ? 1 : 0);
            }
        }
    }

    @Edges.Says(in = "Terms 1", words = "PLAIN, or WATCHING a THING 0 .. 5.")
    static void plainOrWatching() {
        RehearsalDesk x = new RehearsalDesk();
        x.face(-1);
        x.method(0, 1, 0, 1, 0);
        CHECK.due("plain", x.stand(0, -1), 0);
        for (int thing = 0; thing <= 5; thing++) {
            CHECK.due("watching " + thing, x.stand(0, thing), thing + 1);
        }
        CHECK.due("thing 6", x.stand(0, 6), BAD);
        CHECK.due("the plain one", x.call(0, 0, 7, 0, 0), 3);
        for (int thing = 0; thing <= 5; thing++) {
            CHECK.due("level of " + thing + " ahead", x.level(thing), 0);
            CHECK.due("the one watching " + thing, x.call(thing + 1, 0, 7, 0, 0), 0);
            CHECK.due("level of " + thing, x.level(thing), 7);
        }
    }

    @Edges.Says(in = "Terms 1", words = "THINGS are LAMPS: each has a LEVEL (0 at first);")
    static void levelsAtFirst() {
        RehearsalDesk x = new RehearsalDesk();
        for (int thing = 0; thing <= 5; thing++) {
            CHECK.due("level of " + thing, x.level(thing), 0);
        }
        x.face(-1);
        x.method(0, 1, 0, 1, 0);
        x.stand(0, 5);
        x.stand(0, 5);
        CHECK.due("watching does not change it", x.level(5), 0);
        x.call(0, 0, 3, 0, 0);
        x.call(1, 0, 4, 0, 0);
        CHECK.due("it is the thing's, not the stand's", x.level(5), 7);
        CHECK.due("and no other thing's", x.level(4), 0);
    }

    @Edges.Says(in = "Terms 1", words = "a METHOD called THROUGH to a LAMP: "
            + "its LEVEL becomes the sum (going round) of it and all WHOLES of the call;")
    static void levelsGoRound() {
        RehearsalDesk x = one(3, 0, 1, 0, 2);
        CHECK.due("all three wholes", x.call(0, 0, 1, 20, 100), 0);
        CHECK.due("level", x.level(2), 121);
        CHECK.due("round to 0", x.call(0, 0, MAX, MAX, 2), 0);
        CHECK.due("level stays as it was", x.level(2), 121);
        CHECK.due("round below", x.call(0, 0, MIN, MIN, -21), 0);
        CHECK.due("level", x.level(2), 100);
        CHECK.due("round and up to 255", x.call(0, 0, MAX, MAX, 157), 0);
        CHECK.due("level", x.level(2), 255);
        RehearsalDesk y = one(3, 5, 1, 0, 2);
        CHECK.due("only the wholes", y.call(0, 0, 0, 9, -1), 0);
        CHECK.due("level", y.level(2), 9);
        RehearsalDesk z = one(1, 0, 1, 0, 2);
        CHECK.due("only what is a parameter", z.call(0, 0, 9, 100, 100), 0);
        CHECK.due("level", z.level(2), 9);
        RehearsalDesk none = one(0, 0, 1, 0, 2);
        CHECK.due("no wholes at all", none.call(0, 0, 9, 9, 9), 0);
        CHECK.due("level", none.level(2), 0);
    }

    @Edges.Says(in = "Terms 1", words = "gives that (a WHOLE), no STAND;")
    static void lampsGive() {
        int[] due = {0, 12, -1};
        for (int gives = 0; gives <= 2; gives++) {
            RehearsalDesk x = one(1, 0, gives, 0, 0);
            x.call(0, 0, 12, 0, 0);
            CHECK.row("gives " + gives, Check.came(x), 0, due[gives], -1, -1);
            CHECK.due("level", x.level(0), 12);
        }
    }

    @Edges.Says(in = "Terms 1", words = "but FAILS with KIND 7, and stays, if the LEVEL would be below 0 or above 255.")
    static void levelsStayWithin() {
        for (int from : new int[] {0, 100, 255}) {
            for (int to : new int[] {MIN, -256, -1, 0, 1, 254, 255, 256, 511, MAX}) {
                RehearsalDesk x = one(1, 0, 1, 128, 0);
                x.call(0, 0, from, 0, 0);
                boolean within = to >= 0 && to <= 255;
                String name = "from " + from + " to " + to;
                CHECK.due(name, x.call(0, 0, to - from, 0, 0), within ? 0 : 1);
                CHECK.row(name, Check.came(x), within ? 0 : 1, within ? to : 0, within ? -1 : 7, -1);
                CHECK.due(name + ": level", x.level(0), within ? to : from);
            }
        }
        RehearsalDesk y = one(1, 0, 1, 127, 0);
        CHECK.due("one that may not fail with 7", y.call(0, 0, 256, 0, 0), 2);
        CHECK.due("the kind", y.came(2), 8);
        CHECK.due("level", y.level(0), 0);
    }

    // ---- promise 1

    @Edges.Says(in = "Promise 1", words = "No FACES, STANDS, RULES, CALLS, EXPECTATIONS, CUES; LEVELS 0.")
    static void newObject() {
        RehearsalDesk x = new RehearsalDesk();
        CHECK.row("counts", Check.counts(x), 0, 0, 0, 0, 0, 0, 0, 0, 0, 0);
        for (int face = 0; face < 12; face++) {
            CHECK.due("methods of face " + face, x.count(10 + face), BAD);
        }
        for (int thing = 0; thing < 6; thing++) {
            CHECK.due("level " + thing, x.level(thing), 0);
        }
        CHECK.due("no face: method", x.method(0, 0, 0, 0, 0), BAD);
        CHECK.due("no face: stand", x.stand(0, -1), BAD);
        CHECK.due("no stand: of", x.of(0, 0), BAD);
        CHECK.due("no stand: rule", x.rule(0, 0), BAD);
        CHECK.due("no stand: call", x.call(0, 0, 0, 0, 0), BAD);
        CHECK.due("no stand: expect", x.expect(0, 0, 0, 0), BAD);
        CHECK.due("no stand: beside", x.beside(0, true), BAD);
        CHECK.due("no rule: on", x.on(0, 0, 0, 0, 0), BAD);
        CHECK.due("no rule: answer", x.answer(0, 0, 0), BAD);
        CHECK.due("no rule: caught", x.caught(0, 0), -1001);
        CHECK.row("no call: came", Check.came(x), -1001, -1001, -1001, -1001);
        CHECK.due("no call: recorded", x.recorded(0, 0), -1001);
        CHECK.due("no expectation: with", x.with(0, 0, 0, 0, 0), BAD);
        CHECK.due("no expectation: order", x.order(0, 1), BAD);
        CHECK.due("no expectation: met", x.met(0), BAD);
        CHECK.due("nothing found: wrong", x.wrong(0, 0), BAD);
        CHECK.due("nothing to find: verify", x.verify(), 0);
        CHECK.due("no cue: clear", x.clear(), 0);
        CHECK.due("no cue: run", x.run(1), 0);
        CHECK.due("nothing told", x.told(0), -1001);
        CHECK.due("nothing to forget", x.forget(), 0);
    }

    // ---- promise 2

    @Edges.Says(in = "Promise 2", words = "A FACE, BELOW an earlier one (-1: none): its number.")
    static void faceNumbers() {
        RehearsalDesk x = new RehearsalDesk();
        CHECK.due("below none", x.face(-1), 0);
        CHECK.due("below the first", x.face(0), 1);
        CHECK.due("below the latest", x.face(1), 2);
        CHECK.due("below none again", x.face(-1), 3);
        x.stand(2, -1);
        x.stand(3, -1);
        int[][] due = {{1, 1, 1, 0}, {0, 0, 0, 1}};
        for (int face = 0; face < 4; face++) {
            CHECK.due("the one below two is of " + face, x.of(0, face), due[0][face]);
            CHECK.due("the one below none is of " + face, x.of(1, face), due[1][face]);
        }
    }

    @Edges.Says(in = "Promise 2", words = "BAD;")
    static void faceBad() {
        RehearsalDesk x = new RehearsalDesk();
        for (int size = 0; size <= 12; size++) {
            CHECK.due("below itself, with " + size, x.face(size), BAD);
            CHECK.due("below a later one, with " + size, x.face(size + 1), BAD);
            CHECK.due("below -2, with " + size, x.face(-2), BAD);
            CHECK.due("below MIN, with " + size, x.face(MIN), BAD);
            CHECK.due("below MAX, with " + size, x.face(MAX), BAD);
            CHECK.due("faces", x.count(0), size);
            x.face(-1);
        }
    }

    @Edges.Says(in = "Promise 2", words = "FULL.")
    static void faceFull() {
        RehearsalDesk x = new RehearsalDesk();
        for (int i = 0; i < 11; i++) {
            x.face(-1);
        }
        CHECK.due("the twelfth", x.face(10), 11);
        CHECK.due("a thirteenth below none", x.face(-1), FULL);
        CHECK.due("a thirteenth below the last", x.face(11), FULL);
        CHECK.due("the last has none below it", x.method(11, 0, 0, 0, 0), 0);
        CHECK.due("faces", x.count(0), 12);
    }

    // ---- promise 3

    @Edges.Says(in = "Promise 3", words = "A METHOD more of a FACE, with n PARAMETERS (0 .. 3): its number.")
    static void methodNumbers() {
        RehearsalDesk x = new RehearsalDesk();
        x.face(-1);
        for (int n = 0; n <= 3; n++) {
            CHECK.due("with " + n, x.method(0, n, 0, 0, 0), n);
        }
        for (int n : Check.beyond(0, 3)) {
            CHECK.due("with " + n, x.method(0, n, 0, 0, 0), BAD);
        }
        CHECK.due("methods", x.count(10), 4);
        for (int face : Check.beyond(0, 0)) {
            CHECK.due("of face " + face, x.method(face, 0, 0, 0, 0), BAD);
        }
    }

    @Edges.Says(in = "Promise 3", words = "BAD: also bits of STANDS beyond n,")
    static void methodBitsBeyond() {
        for (int n = 0; n <= 3; n++) {
            RehearsalDesk x = new RehearsalDesk();
            x.face(-1);
            int all = (1 << n) - 1;
            CHECK.due("all of " + n, x.method(0, n, all, 0, 0), 0);
            CHECK.due("none of " + n, x.method(0, n, 0, 0, 0), 1);
            for (int bit = n; bit < 32; bit++) {
                CHECK.due("bit " + bit + " of " + n, x.method(0, n, 1 << bit, 0, 0), BAD);
                CHECK.due("bit " + bit + " beside all of " + n, x.method(0, n, all | 1 << bit, 0, 0), BAD);
            }
            CHECK.due("all 32 bits", x.method(0, n, -1, 0, 0), BAD);
            CHECK.due("methods", x.count(10), 2);
        }
    }

    @Edges.Says(in = "Promise 3", words = "GIVES,")
    static void methodGivesBeyond() {
        RehearsalDesk x = new RehearsalDesk();
        x.face(-1);
        for (int gives = 0; gives <= 2; gives++) {
            CHECK.due("gives " + gives, x.method(0, 0, 0, gives, 0), gives);
        }
        for (int gives : Check.beyond(0, 2)) {
            CHECK.due("gives " + gives, x.method(0, 0, 0, gives, 0), BAD);
        }
        CHECK.due("methods", x.count(10), 3);
    }

    @Edges.Says(in = "Promise 3", words = "KINDS not 0 .. 255;")
    static void methodKindsBeyond() {
        RehearsalDesk x = new RehearsalDesk();
        x.face(-1);
        CHECK.due("no kinds", x.method(0, 0, 0, 0, 0), 0);
        CHECK.due("all kinds", x.method(0, 0, 0, 0, 255), 1);
        for (int kinds : Check.beyond(0, 255)) {
            CHECK.due("kinds " + kinds, x.method(0, 0, 0, 0, kinds), BAD);
        }
        CHECK.due("methods", x.count(10), 2);
    }

    @Edges.Says(in = "Promise 3", words = "NOT: a STAND is of the FACE (or of one below), or one is BELOW it;")
    static void methodNot() {
        RehearsalDesk x = new RehearsalDesk();
        x.face(-1);
        x.face(-1);
        CHECK.due("neither yet", x.method(0, 0, 0, 0, 0), 0);
        x.stand(0, -1);
        CHECK.due("a stand is of it", x.method(0, 0, 0, 0, 0), NOT);
        CHECK.due("none is of the other", x.method(1, 0, 0, 0, 0), 0);
        x.face(1);
        CHECK.due("one is below it", x.method(1, 0, 0, 0, 0), NOT);
        CHECK.due("none is below the lower one", x.method(2, 0, 0, 0, 0), 1);
        x.face(2);
        x.stand(3, -1);
        CHECK.due("a stand is of one below one below it", x.method(1, 0, 0, 0, 0), NOT);
        CHECK.due("a stand is of one below it", x.method(2, 0, 0, 0, 0), NOT);
        CHECK.due("a stand is of the lowest", x.method(3, 0, 0, 0, 0), NOT);
        x.face(0);
        CHECK.due("a stand is of the one above alone", x.method(4, 0, 0, 0, 0), 1);
    }

    @Edges.Says(in = "Promise 3", words = "FULL.")
    static void methodFull() {
        RehearsalDesk x = new RehearsalDesk();
        x.face(-1);
        for (int i = 0; i < 7; i++) {
            x.method(0, 0, 0, 0, 0);
        }
        CHECK.due("the eighth", x.method(0, 3, 7, 2, 255), 7);
        CHECK.due("a ninth", x.method(0, 0, 0, 0, 0), FULL);
        CHECK.due("methods", x.count(10), 8);
        x.face(0);
        CHECK.due("a ninth, eight being from above", x.method(1, 0, 0, 0, 0), FULL);
        CHECK.due("methods below", x.count(11), 8);
    }

    // ---- promise 4

    @Edges.Says(in = "Promise 4", words = "A STAND of a FACE: its number.")
    static void standNumbers() {
        RehearsalDesk x = new RehearsalDesk();
        CHECK.due("no face is there yet", x.stand(0, -1), BAD);
        x.face(-1);
        x.face(-1);
        CHECK.due("of the first face", x.stand(0, -1), 0);
        CHECK.due("of the last face", x.stand(1, -1), 1);
        for (int face : Check.beyond(0, 1)) {
            CHECK.due("of face " + face, x.stand(face, -1), BAD);
        }
        CHECK.due("stands", x.count(1), 2);
    }

    @Edges.Says(in = "Promise 4", words = "BAD: also the THING (-1: PLAIN);")
    static void standBadThing() {
        RehearsalDesk x = new RehearsalDesk();
        x.face(-1);
        for (int thing : Check.beyond(-1, 5)) {
            CHECK.due("thing " + thing, x.stand(0, thing), BAD);
        }
        CHECK.due("plain", x.stand(0, -1), 0);
        CHECK.due("the first thing", x.stand(0, 0), 1);
        CHECK.due("the last thing", x.stand(0, 5), 2);
        CHECK.due("stands", x.count(1), 3);
    }

    @Edges.Says(in = "Promise 4", words = "FULL.")
    static void standFull() {
        RehearsalDesk x = new RehearsalDesk();
        x.face(-1);
        x.face(-1);
        for (int i = 0; i < 23; i++) {
            x.stand(0, -1);
        }
        CHECK.due("the twenty-fourth", x.stand(0, 5), 23);
        CHECK.due("a twenty-fifth", x.stand(0, -1), FULL);
        CHECK.due("of another face too", x.stand(1, 0), FULL);
        CHECK.due("which has no stand then", x.method(1, 0, 0, 0, 0), 0);
        CHECK.due("stands", x.count(1), 24);
    }

    // ---- promise 5

    @Edges.Says(in = "Promise 5", words = "Whether a STAND is of a FACE: 1, 0.")
    static void ofAnswers() {
        RehearsalDesk x = new RehearsalDesk();
        x.face(-1);
        x.face(0);
        x.face(0);
        x.stand(0, -1);
        x.stand(1, -1);
        CHECK.due("of its own", x.of(1, 1), 1);
        CHECK.due("of the one above", x.of(1, 0), 1);
        CHECK.due("not of the one below", x.of(0, 1), 0);
        CHECK.due("not of the one beside", x.of(1, 2), 0);
    }

    @Edges.Says(in = "Promise 5", words = "BAD.")
    static void ofBad() {
        RehearsalDesk x = new RehearsalDesk();
        CHECK.due("nothing there yet", x.of(0, 0), BAD);
        x.face(-1);
        CHECK.due("no stand there yet", x.of(0, 0), BAD);
        x.stand(0, -1);
        CHECK.due("both there", x.of(0, 0), 1);
        for (int beyond : Check.beyond(0, 0)) {
            CHECK.due("stand " + beyond, x.of(beyond, 0), BAD);
            CHECK.due("face " + beyond, x.of(0, beyond), BAD);
        }
    }

    // ---- promise 6

    @Edges.Says(in = "Promise 6", words = "The LEVEL of a THING.")
    static void levelAnswers() {
        RehearsalDesk x = new RehearsalDesk();
        x.face(-1);
        x.method(0, 1, 0, 0, 0);
        for (int thing = 0; thing <= 5; thing++) {
            x.stand(0, thing);
            x.call(thing, 0, 250 + thing, 0, 0);
        }
        for (int thing = 0; thing <= 5; thing++) {
            CHECK.due("level " + thing, x.level(thing), 250 + thing);
        }
    }

    @Edges.Says(in = "Promise 6", words = "BAD.")
    static void levelBad() {
        RehearsalDesk x = new RehearsalDesk();
        for (int thing : Check.beyond(0, 5)) {
            CHECK.due("level " + thing, x.level(thing), BAD);
        }
    }
}
