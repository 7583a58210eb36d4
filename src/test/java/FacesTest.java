/** Promises 1 to 6: a new object, face, method, stand, of, level. */
public final class FacesTest {
    private static final int BAD = RehearsalDesk.BAD, NOT = RehearsalDesk.NOT, FULL = RehearsalDesk.FULL;
    private static final int MIN = Integer.MIN_VALUE, MAX = Integer.MAX_VALUE;
    private static final Check CHECK = new Check("FacesTest");

    public static void main(String[] args) {
        newObject();
        faces();
        methods();
        methodsOfAFixedFace();
        methodsOfAFaceBelow();
        stands();
        of();
        levels();
        CHECK.end();
    }

    private static void newObject() {
        RehearsalDesk x = new RehearsalDesk();
        CHECK.row("new: counts", Check.counts(x), 0, 0, 0, 0, 0, 0, 0, 0, 0, 0);
        CHECK.due("new: methods of face 0", x.count(10), BAD);
        for (int thing = 0; thing < 6; thing++) {
            CHECK.due("new: level", x.level(thing), 0);
        }
        CHECK.row("new: came", Check.came(x), -1001, -1001, -1001, -1001);
        CHECK.due("new: recorded", x.recorded(0, 0), -1001);
        CHECK.due("new: wrong", x.wrong(0, 0), BAD);
        CHECK.row("new: desk", Check.desk(x), 0, 0, 0, 0, 0, 0, 0, 0, -1, -1, -1, -1);
        CHECK.due("new: told", x.told(0), -1001);
        CHECK.due("new: caught", x.caught(0, 0), -1001);
        CHECK.due("new: verify", x.verify(), 0);
        CHECK.due("new: clear", x.clear(), 0);
        CHECK.due("new: forget", x.forget(), 0);
        CHECK.due("new: run", x.run(1), 0);
    }

    private static void faces() {
        RehearsalDesk x = new RehearsalDesk();
        CHECK.due("face below none yet", x.face(0), BAD);
        CHECK.due("face(-2)", x.face(-2), BAD);
        CHECK.due("face(MIN)", x.face(MIN), BAD);
        CHECK.due("face(MAX)", x.face(MAX), BAD);
        CHECK.due("refused faces", x.count(0), 0);
        for (int i = 0; i < 12; i++) {
            CHECK.due("face " + i, x.face(i % 3 == 0 ? -1 : i - 1), i);
            CHECK.due("face below itself or a later one", x.face(i + 1), BAD);
        }
        CHECK.due("face beyond 12", x.face(-1), FULL);
        CHECK.due("face beyond 12, below", x.face(11), FULL);
        CHECK.due("BAD comes ahead of FULL", x.face(12), BAD);
        CHECK.due("faces", x.count(0), 12);
    }

    private static void methods() {
        RehearsalDesk x = new RehearsalDesk();
        CHECK.due("method of no face", x.method(0, 0, 0, 0, 0), BAD);
        x.face(-1);
        refuseMethods(x);
        CHECK.due("refused methods", x.count(10), 0);
        CHECK.due("method 0", x.method(0, 0, 0, 0, 0), 0);
        CHECK.due("method 1", x.method(0, 3, 7, 2, 255), 1);
        CHECK.due("method 2", x.method(0, 1, 1, 1, 0), 2);
        for (int i = 3; i < 8; i++) {
            CHECK.due("method " + i, x.method(0, 2, 3, 0, 1), i);
        }
        CHECK.due("method beyond 8", x.method(0, 0, 0, 0, 0), FULL);
        refuseMethods(x);
        CHECK.due("methods", x.count(10), 8);
        x.stand(0, -1);
        CHECK.due("NOT comes ahead of FULL", x.method(0, 0, 0, 0, 0), NOT);
        refuseMethods(x);
    }

    private static void refuseMethods(RehearsalDesk x) {
        int[][] bad = {
            {1, 0, 0, 0, 0}, {-1, 0, 0, 0, 0}, {MIN, 0, 0, 0, 0}, {MAX, 0, 0, 0, 0}, {12, 0, 0, 0, 0},
            {0, -1, 0, 0, 0}, {0, 4, 0, 0, 0}, {0, MIN, 0, 0, 0}, {0, MAX, 0, 0, 0}, {0, 32, 0, 0, 0},
            {0, 0, 1, 0, 0}, {0, 1, 2, 0, 0}, {0, 2, 4, 0, 0}, {0, 3, 8, 0, 0},
            {0, 3, -1, 0, 0}, {0, 3, MIN, 0, 0}, {0, 3, MAX, 0, 0},
            {0, 0, 0, -1, 0}, {0, 0, 0, 3, 0}, {0, 0, 0, MIN, 0}, {0, 0, 0, MAX, 0},
            {0, 0, 0, 0, -1}, {0, 0, 0, 0, 256}, {0, 0, 0, 0, MIN}, {0, 0, 0, 0, MAX},
        };
        for (int[] m : bad) {
            CHECK.due("bad method", x.method(m[0], m[1], m[2], m[3], m[4]), BAD);
        }
    }

    private static void methodsOfAFixedFace() {
        RehearsalDesk x = new RehearsalDesk();
        x.face(-1);
        x.face(-1);
        x.stand(0, -1);
        CHECK.due("method of a face with a stand", x.method(0, 0, 0, 0, 0), NOT);
        CHECK.due("method of a face without one", x.method(1, 0, 0, 0, 0), 0);
        x.face(1);
        CHECK.due("method of a face with one below", x.method(1, 0, 0, 0, 0), NOT);
        CHECK.due("BAD comes ahead of NOT", x.method(1, 4, 0, 0, 0), BAD);
        x.stand(2, -1);
        CHECK.due("method of a face with a stand below", x.method(1, 0, 0, 0, 0), NOT);
        CHECK.due("method of the one below", x.method(2, 0, 0, 0, 0), NOT);
        CHECK.due("methods of 0", x.count(10), 0);
        CHECK.due("methods of 1", x.count(11), 1);
        CHECK.due("methods of 2", x.count(12), 1);
    }

    private static void methodsOfAFaceBelow() {
        RehearsalDesk x = new RehearsalDesk();
        x.face(-1);
        x.method(0, 2, 2, 1, 4);
        x.method(0, 1, 0, 2, 0);
        x.face(0);
        CHECK.due("methods come from above", x.count(11), 2);
        CHECK.due("its own comes behind them", x.method(1, 1, 0, 1, 0), 2);
        CHECK.due("the one above has it not", x.count(10), 2);
        x.face(0);
        CHECK.due("a second one below", x.count(12), 2);
        x.face(1);
        CHECK.due("below one below", x.count(13), 3);
        for (int i = 3; i < 8; i++) {
            CHECK.due("method " + i + " below", x.method(3, 0, 0, 0, 0), i);
        }
        CHECK.due("those from above count", x.method(3, 0, 0, 0, 0), FULL);
        x.stand(2, -1);
        x.rule(0, 0);
        CHECK.due("parameter 0 is a whole there too", x.on(0, 0, 2, 0, 1), 1);
        CHECK.due("parameter 1 is a stand there too", x.on(0, 1, 2, 0, 1), BAD);
        CHECK.due("there is no parameter 2 there either", x.on(0, 2, 0, 0, 0), BAD);
        x.on(0, 0, 0, 0, 0);
        x.answer(0, 2, 2);
        x.answer(0, 2, 3);
        CHECK.due("it may fail with 2 there too", x.call(0, 0, 0, -1, 0), 1);
        CHECK.due("and not with 3", x.call(0, 0, 0, -1, 0), 2);
        CHECK.due("it gives a stand there too", x.call(0, 1, 0, 0, 0), 3);
        CHECK.due("none", x.came(1), -1);
    }

    private static void stands() {
        RehearsalDesk x = new RehearsalDesk();
        CHECK.due("stand of no face", x.stand(0, -1), BAD);
        x.face(-1);
        CHECK.due("stand(1, -1)", x.stand(1, -1), BAD);
        CHECK.due("stand(-1, -1)", x.stand(-1, -1), BAD);
        CHECK.due("stand(0, -2)", x.stand(0, -2), BAD);
        CHECK.due("stand(0, 6)", x.stand(0, 6), BAD);
        CHECK.due("stand(0, MIN)", x.stand(0, MIN), BAD);
        CHECK.due("stand(MAX, 0)", x.stand(MAX, 0), BAD);
        CHECK.due("a face of refused stands takes methods", x.method(0, 0, 0, 0, 0), 0);
        for (int i = 0; i < 24; i++) {
            CHECK.due("stand " + i, x.stand(0, i % 7 - 1), i);
        }
        CHECK.due("stand beyond 24", x.stand(0, 0), FULL);
        CHECK.due("BAD comes ahead of FULL", x.stand(0, 6), BAD);
        CHECK.due("stands", x.count(1), 24);
        x.face(-1);
        CHECK.due("stand of another face beyond 24", x.stand(1, 0), FULL);
        CHECK.due("it takes methods", x.method(1, 0, 0, 0, 0), 0);
    }

    private static void of() {
        RehearsalDesk x = new RehearsalDesk();
        x.face(-1);
        x.face(0);
        x.face(1);
        x.face(0);
        x.face(-1);
        for (int face = 0; face < 5; face++) {
            x.stand(face, -1);
        }
        int[][] due = {{1, 0, 0, 0, 0}, {1, 1, 0, 0, 0}, {1, 1, 1, 0, 0}, {1, 0, 0, 1, 0}, {0, 0, 0, 0, 1}};
        for (int stand = 0; stand < 5; stand++) {
            for (int face = 0; face < 5; face++) {
                CHECK.due("of(" + stand + ", " + face + ")", x.of(stand, face), due[stand][face]);
            }
        }
        CHECK.due("of(5, 0)", x.of(5, 0), BAD);
        CHECK.due("of(-1, 0)", x.of(-1, 0), BAD);
        CHECK.due("of(0, 5)", x.of(0, 5), BAD);
        CHECK.due("of(0, -1)", x.of(0, -1), BAD);
        CHECK.due("of(0, 32)", x.of(0, 32), BAD);
        CHECK.due("of(MIN, MAX)", x.of(MIN, MAX), BAD);
    }

    private static void levels() {
        RehearsalDesk x = new RehearsalDesk();
        x.face(-1);
        x.method(0, 3, 2, 1, 128);
        for (int thing = 0; thing < 6; thing++) {
            x.stand(0, thing);
            x.call(thing, 0, 10, 0, thing);
        }
        x.stand(0, 3);
        x.call(6, 0, 100, -1, 0);
        for (int thing = 0; thing < 6; thing++) {
            CHECK.due("level " + thing, x.level(thing), 10 + thing + (thing == 3 ? 100 : 0));
        }
        CHECK.due("level(-1)", x.level(-1), BAD);
        CHECK.due("level(6)", x.level(6), BAD);
        CHECK.due("level(MIN)", x.level(MIN), BAD);
        CHECK.due("level(MAX)", x.level(MAX), BAD);
    }
}
