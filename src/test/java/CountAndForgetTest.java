/** Promises 26 and 27: count and forget; and that what is refused changes nothing. */
public final class CountAndForgetTest {
    private static final int BAD = RehearsalDesk.BAD;
    private static final int MIN = Integer.MIN_VALUE, MAX = Integer.MAX_VALUE;
    private static final Check CHECK = new Check("CountAndForgetTest");

    public static void main(String[] args) {
        counts();
        methodCounts();
        forget();
        forgetKeepsWhatWasTaught();
        refusedChangesNothing();
        objectsAreApart();
        CHECK.end();
    }

    /** One face more than stands, one stand more than rules, and so on, so that no two counts agree. */
    private static RehearsalDesk desk() {
        RehearsalDesk x = new RehearsalDesk();
        for (int i = 0; i < 9; i++) {
            x.face(-1);
        }
        x.method(0, 1, 0, 1, 0);
        for (int i = 0; i < 8; i++) {
            x.stand(0, i % 3);
        }
        for (int i = 0; i < 7; i++) {
            x.rule(i, 0);
        }
        for (int i = 0; i < 6; i++) {
            x.expect(i, 0, 0, 1);
        }
        for (int i = 1; i < 6; i++) {
            x.order(0, i);
        }
        x.on(0, 0, 6, 0, 0);
        x.answer(0, 0, 41);
        x.answer(0, 0, 42);
        x.answer(0, 0, 43);
        x.cue(2, 0, 0, 0);
        x.cue(0, 0, 9, 0);
        x.cue(3, 0, 0, 0);
        x.cue(9, 7, 0, 0);
        x.run(10);
        x.run(10);
        x.call(1, 0, 20, 0, 0);
        return x;
    }

    private static void counts() {
        RehearsalDesk x = desk();
        CHECK.row("counts", Check.counts(x), 9, 8, 7, 3, 0, 6, 5, 4, 8, 2);
        x.cue(4, 2, 0, 0);
        x.run(1000);
        x.run(1000);
        CHECK.due("recorded", x.count(3), 500);
        CHECK.due("lost", x.count(4), 3 + 333 + 333 - 500);
        CHECK.due("told", x.count(9), 100);
        CHECK.due("cues done", x.count(8), 2008);
        for (int what : new int[] {-1, 22, MIN, MAX, MIN + 10, MIN + 9}) {
            CHECK.due("count(" + what + ")", x.count(what), BAD);
        }
    }

    private static void methodCounts() {
        RehearsalDesk x = new RehearsalDesk();
        for (int face = 0; face < 12; face++) {
            CHECK.due("no face yet", x.count(10 + face), BAD);
            x.face(-1);
            for (int i = 0; i < face % 8; i++) {
                x.method(face, 0, 0, 0, 0);
            }
            CHECK.due("methods", x.count(10 + face), face % 8);
        }
        CHECK.due("methods of face 1", x.count(11), 1);
        CHECK.due("count(22)", x.count(22), BAD);
    }

    private static void forget() {
        RehearsalDesk x = desk();
        x.verify();
        int[] wrongs = Check.wrongs(x, 1);
        CHECK.row("a wrong", wrongs, 2, 0, 2);
        CHECK.due("level", x.level(1), 20);
        CHECK.due("caught", x.caught(0, 0), 9);
        CHECK.due("forget", x.forget(), 3);
        CHECK.row("counts", Check.counts(x), 9, 8, 7, 0, 0, 6, 5, 4, 8, 0);
        CHECK.due("nothing is recorded", x.recorded(0, 0), -1001);
        CHECK.due("nothing is told", x.told(0), -1001);
        CHECK.due("nothing is caught", x.caught(0, 0), -1002);
        CHECK.due("nothing meets", x.met(0), 0);
        CHECK.due("level", x.level(1), 0);
        CHECK.row("came", Check.came(x), 0, 20, -1, -1);
        CHECK.row("wrongs", Check.wrongs(x, 1), 2, 0, 2);
        CHECK.row("desk", Check.desk(x), 9, 0, 0, 0, 0, 0, 0, 42, 0, -1, -1, -1);
        CHECK.due("forget again", x.forget(), 0);
        CHECK.due("nothing is wrong", x.verify(), 0);
    }

    private static void forgetKeepsWhatWasTaught() {
        RehearsalDesk x = desk();
        x.beside(7, true);
        x.forget();
        for (int i = 0; i < 4; i++) {
            x.call(0, 0, 5 + i, 0, 0);
            CHECK.row("the rule's next call is its first", Check.came(x), 0, 41 + Math.min(i, 2), -1, 0);
        }
        CHECK.due("it catches", x.caught(0, 0), 8);
        CHECK.due("it had none beside", x.beside(7, true), 1);
        CHECK.due("a method is still not taken", x.method(0, 0, 0, 0, 0), RehearsalDesk.NOT);
        CHECK.due("the cues are there", x.run(10), 0);
        CHECK.due("told anew", x.told(0), 43);
        CHECK.row("the expectations are there", Check.wrongs(x, x.verify()), 2, 0, 5);
    }

    private static void refusedChangesNothing() {
        RehearsalDesk x = desk();
        x.verify();
        int[] before = Check.counts(x);
        int[] desk = Check.desk(x);
        int[] bad = {
            x.face(9), x.method(12, 0, 0, 0, 0), x.stand(9, 0), x.of(8, 0), x.level(6), x.rule(8, 0), x.on(7, 0, 0, 0, 0),
            x.answer(7, 0, 0), x.call(8, 0, 0, 0, 0), x.expect(8, 0, 0, 0), x.with(6, 0, 0, 0, 0), x.order(0, 6),
            x.beside(8, true), x.met(6), x.wrong(9, 0), x.cue(10, 0, 0, 0), x.run(0), x.count(22),
        };
        for (int i = 0; i < bad.length; i++) {
            CHECK.due("refused " + i, bad[i], BAD);
        }
        CHECK.row("counts", Check.counts(x), before);
        CHECK.row("desk", Check.desk(x), desk);
        CHECK.row("came", Check.came(x), 0, 20, -1, -1);
        CHECK.row("wrongs", Check.wrongs(x, 1), 2, 0, 2);
    }

    private static void objectsAreApart() {
        RehearsalDesk x = desk();
        RehearsalDesk y = new RehearsalDesk();
        CHECK.row("a new one beside another", Check.counts(y), 0, 0, 0, 0, 0, 0, 0, 0, 0, 0);
        y.face(-1);
        y.stand(0, 1);
        CHECK.due("its stand has no methods", y.call(0, 0, 5, 0, 0), BAD);
        CHECK.due("its level", y.level(1), 0);
        CHECK.due("the other's level", x.level(1), 20);
        CHECK.row("the other's counts", Check.counts(x), 9, 8, 7, 3, 0, 6, 5, 4, 8, 2);
    }
}
