import java.util.ArrayList;
import java.util.Arrays;
import java.util.List;
import java.util.function.Consumer;
import java.util.function.Function;
import java.util.function.ToIntFunction;

/** The sentences ahead of part 1 of the terms: which refusal is answered, and that it changes nothing. */
public final class RefusalsTest {
    private static final int BAD = RehearsalDesk.BAD, NOT = RehearsalDesk.NOT, FULL = RehearsalDesk.FULL;
    private static final int FAR_BAD = -1001, FAR_NOT = -1002;
    private static final int MIN = Check.MIN, MAX = Check.MAX;
    private static final Check CHECK = new Check("RefusalsTest");

    public static void main(String[] args) throws ReflectiveOperationException {
        Edges.run(CHECK, RefusalsTest.class);
    }

    private record Refused(String name, int due, Consumer<RehearsalDesk> ahead, ToIntFunction<RehearsalDesk> call) { }

    // ---- a desk with some of everything

    private static RehearsalDesk desk() {
        RehearsalDesk x = new RehearsalDesk();
        x.face(-1);
        x.method(0, 3, 2, 1, 129);
        x.method(0, 1, 1, 2, 0);
        x.method(0, 0, 0, 0, 0);
        x.face(0);
        x.face(-1);
        x.method(2, 1, 0, 1, 0);
        x.stand(0, -1);
        x.stand(1, 0);
        x.stand(1, 5);
        x.rule(0, 0);
        x.on(0, 0, 6, 0, 0);
        x.on(0, 1, 6, 0, 0);
        x.answer(0, 0, 42);
        x.answer(0, 2, 7);
        x.rule(0, 1);
        x.on(1, 0, 1, 2, 0);
        x.answer(1, 1, 1);
        x.rule(0, 2);
        x.expect(0, 0, 1, 1);
        x.with(0, 0, 2, 5, 9);
        x.expect(1, 0, 0, 9);
        x.expect(1, 2, 0, 9);
        x.order(0, 1);
        x.beside(1, true);
        x.cue(0, 0, 6, 0);
        x.cue(2, 0, 1, 0);
        x.cue(2, 1, 2, 0);
        x.cue(6, 1, 5, 0);
        x.cue(3, 0, 0, 0);
        x.cue(9, 7, 0, 0);
        x.run(100);
        x.verify();
        x.call(0, 0, 7, 1, 8);
        x.call(0, 1, 2, 0, 0);
        return x;
    }

    private static void times(int n, Runnable does) {
        for (int i = 0; i < n; i++) {
            does.run();
        }
    }

    private static void as(RehearsalDesk x) { }

    private static void fullOfFaces(RehearsalDesk x) {
        times(9, () -> x.face(-1));
    }

    private static void fullOfMethods(RehearsalDesk x) {
        times(7, () -> x.method(2, 1, 0, 0, 0));
    }

    private static void fullOfStands(RehearsalDesk x) {
        times(21, () -> x.stand(0, -1));
    }

    private static void fullOfRules(RehearsalDesk x) {
        times(76, () -> x.rule(0, 0));
        x.rule(1, 0);
        x.answer(79, 0, 79);
    }

    private static void fullOfAnswers(RehearsalDesk x) {
        times(4, () -> x.answer(0, 0, 9));
    }

    private static void fullOfExpectations(RehearsalDesk x) {
        times(37, () -> x.expect(0, 0, 0, 9));
    }

    private static void fullOfOrders(RehearsalDesk x) {
        times(39, () -> x.order(1, 0));
    }

    private static void fullOfCues(RehearsalDesk x) {
        times(54, () -> x.cue(9, 0, 0, 0));
    }

    private static void wornOut(RehearsalDesk x) {
        x.cue(4, 1, 0, 0);
        times(20, () -> x.run(1000));
    }

    // ---- all that can be seen of a desk

    /** What an object tells. */
    private static int[] look(RehearsalDesk x) {
        List<Integer> seen = new ArrayList<>();
        add(seen, Check.counts(x));
        for (int face = 0; face < 12; face++) {
            add(seen, x.count(10 + face));
        }
        for (int face = 0; face < 4; face++) {
            add(seen, x.of(0, face), x.of(1, face), x.of(23, face));
        }
        for (int thing = 0; thing < 6; thing++) {
            add(seen, x.level(thing));
        }
        add(seen, Check.came(x));
        for (int call = 0; call < 4; call++) {
            add(seen, Check.recorded(x, call));
        }
        for (int i = 0; i < 3; i++) {
            add(seen, x.caught(0, i), x.caught(1, i), x.met(i));
        }
        add(seen, x.met(39));
        add(seen, Check.wrongs(x, 5));
        add(seen, Check.desk(x));
        add(seen, x.told(0), x.told(1));
        return row(seen);
    }

    /** How an object does what it was told. */
    private static int[] use(RehearsalDesk x) {
        List<Integer> seen = new ArrayList<>();
        for (int[] c : new int[][] {{0, 0, 6}, {0, 0, 10}, {0, 1, 2}, {0, 2, 0}, {1, 0, 5}, {2, 1, 0}, {23, 0, 1}}) {
            add(seen, x.call(c[0], c[1], c[2], -1, 3));
            add(seen, Check.came(x));
        }
        for (int i = 0; i < 6; i++) {
            add(seen, x.call(0, 0, 1, -1, 1), x.came(1));
        }
        add(seen, x.verify());
        add(seen, Check.wrongs(x, 9));
        add(seen, x.run(100));
        add(seen, Check.desk(x));
        add(seen, Check.told(x));
        add(seen, x.stand(2, 1), x.call(3, 7, 9, 9, 9), x.came(1), x.call(3, 0, 9, 9, 9), x.came(1));
        add(seen, x.clear(), x.forget());
        return row(seen);
    }

    /** How more is told to an object. */
    private static int[] tellMore(RehearsalDesk x) {
        List<Integer> seen = new ArrayList<>();
        add(seen, x.beside(0, true), x.beside(1, true), x.beside(2, true));
        add(seen, x.answer(0, 0, 1), x.answer(1, 0, 1), x.answer(2, 0, 1), x.call(0, 2, 0, 0, 0), x.came(3));
        add(seen, x.method(0, 0, 0, 0, 0), x.method(1, 0, 0, 0, 0), x.method(2, 0, 0, 0, 0), x.method(2, 0, 0, 0, 0));
        add(seen, x.face(2), x.stand(2, 1), x.rule(0, 0), x.expect(0, 0, 0, 0), x.order(2, 1), x.cue(9, 7, 0, 0));
        add(seen, Check.counts(x));
        return row(seen);
    }

    private static void add(List<Integer> seen, int... answers) {
        Arrays.stream(answers).forEach(seen::add);
    }

    private static int[] row(List<Integer> seen) {
        return seen.stream().mapToInt(Integer::intValue).toArray();
    }

    // ---- the refusals

    private static Refused bad(String name, ToIntFunction<RehearsalDesk> call) {
        return new Refused(name, BAD, RefusalsTest::as, call);
    }

    private static Refused full(String name, Consumer<RehearsalDesk> ahead, ToIntFunction<RehearsalDesk> call) {
        return new Refused(name, FULL, ahead, call);
    }

    private static List<Refused> badOnes() {
        return List.of(
                bad("face below a later one", x -> x.face(3)),
                bad("face below -2", x -> x.face(-2)),
                bad("method of no face", x -> x.method(3, 0, 0, 0, 0)),
                bad("method with four parameters", x -> x.method(2, 4, 0, 0, 0)),
                bad("method with fewer than none", x -> x.method(2, -1, 0, 0, 0)),
                bad("method with a bit beyond", x -> x.method(2, 2, 4, 0, 0)),
                bad("method that gives 3", x -> x.method(2, 0, 0, 3, 0)),
                bad("method with kind 8", x -> x.method(2, 0, 0, 0, 256)),
                bad("stand of no face", x -> x.stand(3, -1)),
                bad("stand watching thing 6", x -> x.stand(2, 6)),
                bad("stand watching thing -2", x -> x.stand(2, -2)),
                bad("of no stand", x -> x.of(3, 0)),
                bad("of no face", x -> x.of(0, 3)),
                bad("level of thing 6", x -> x.level(6)),
                bad("rule of no stand", x -> x.rule(3, 0)),
                bad("rule of no method", x -> x.rule(0, 3)),
                bad("on no rule", x -> x.on(3, 0, 0, 0, 0)),
                bad("on no parameter", x -> x.on(0, 3, 0, 0, 0)),
                bad("on a whole, condition 7", x -> x.on(0, 0, 7, 0, 0)),
                bad("on a whole, of a face", x -> x.on(0, 0, 4, 0, 0)),
                bad("on a whole, none", x -> x.on(0, 0, 5, 0, 0)),
                bad("on a stand, between", x -> x.on(0, 1, 2, 0, 0)),
                bad("on a stand, equal none", x -> x.on(0, 1, 1, -1, 0)),
                bad("on a stand, not equal none's number", x -> x.on(1, 0, 3, 3, 0)),
                bad("on a stand, of no face", x -> x.on(1, 0, 4, 3, 0)),
                bad("answer of no rule", x -> x.answer(3, 0, 0)),
                bad("answer 6", x -> x.answer(0, 6, 0)),
                bad("answer -1", x -> x.answer(0, -1, 0)),
                bad("answer stand -2", x -> x.answer(0, 1, -2)),
                bad("answer stand 3", x -> x.answer(0, 1, 3)),
                bad("answer kind 8", x -> x.answer(0, 2, 8)),
                bad("answer parameter 3", x -> x.answer(0, 4, 3)),
                new Refused("caught by no rule", FAR_BAD, RefusalsTest::as, x -> x.caught(3, 0)),
                new Refused("caught for no parameter", FAR_BAD, RefusalsTest::as, x -> x.caught(0, 3)),
                new Refused("caught by another condition", FAR_NOT, RefusalsTest::as, x -> x.caught(0, 2)),
                bad("call of no stand", x -> x.call(3, 0, 1, -1, 1)),
                bad("call of no method", x -> x.call(0, 3, 1, -1, 1)),
                bad("call with no stand's number", x -> x.call(0, 0, 1, 3, 1)),
                bad("call through with no stand's number", x -> x.call(1, 0, 1, -2, 1)),
                bad("call of one stand with no stand's number", x -> x.call(0, 1, MAX, 0, 0)),
                new Refused("came of 4", FAR_BAD, RefusalsTest::as, x -> x.came(4)),
                new Refused("recorded of no call", FAR_BAD, RefusalsTest::as, x -> x.recorded(500, 0)),
                new Refused("recorded of 9", FAR_BAD, RefusalsTest::as, x -> x.recorded(0, 9)),
                bad("expect of no stand", x -> x.expect(3, 0, 0, 0)),
                bad("expect of no method", x -> x.expect(0, 3, 0, 0)),
                bad("expect fewer than none", x -> x.expect(0, 0, -1, 0)),
                bad("expect more at least than at most", x -> x.expect(0, 0, 1, 0)),
                bad("with no expectation", x -> x.with(3, 0, 0, 0, 0)),
                bad("with no parameter", x -> x.with(0, 3, 0, 0, 0)),
                bad("with a whole, condition 7", x -> x.with(0, 0, 7, 0, 0)),
                bad("with a whole, of a face", x -> x.with(0, 0, 4, 0, 0)),
                bad("with a stand, between", x -> x.with(0, 1, 2, 0, 0)),
                bad("with a stand, equal no stand's number", x -> x.with(0, 1, 1, 3, 0)),
                bad("order of no first", x -> x.order(3, 0)),
                bad("order of no second", x -> x.order(0, 3)),
                bad("order of one", x -> x.order(1, 1)),
                bad("beside no stand", x -> x.beside(3, true)),
                bad("met of no expectation", x -> x.met(3)),
                bad("wrong of none", x -> x.wrong(60, 0)),
                bad("wrong of 3", x -> x.wrong(0, 3)),
                bad("cue of kind 10", x -> x.cue(10, 1, 1, 1)),
                bad("cue of whole 8", x -> x.cue(0, 8, 1, 1)),
                bad("cue of stand 24", x -> x.cue(2, 1, 24, 1)),
                bad("cue to cue 61", x -> x.cue(5, 1, 1, 61)),
                bad("run of none", x -> x.run(0)),
                bad("run of 1001", x -> x.run(1001)),
                new Refused("desk of 12", FAR_BAD, RefusalsTest::as, x -> x.desk(12)),
                new Refused("told of none", FAR_BAD, RefusalsTest::as, x -> x.told(100)),
                bad("count of 22", x -> x.count(22)),
                bad("count of no face's methods", x -> x.count(13)));
    }

    private static List<Refused> fullOnes() {
        return List.of(
                full("a thirteenth face", RefusalsTest::fullOfFaces, x -> x.face(-1)),
                full("a thirteenth face below", RefusalsTest::fullOfFaces, x -> x.face(2)),
                full("a ninth method", RefusalsTest::fullOfMethods, x -> x.method(2, 3, 7, 2, 255)),
                full("a twenty-fifth stand", RefusalsTest::fullOfStands, x -> x.stand(2, 0)),
                full("an eighty-first rule", RefusalsTest::fullOfRules, x -> x.rule(0, 1)),
                full("a seventh answer", RefusalsTest::fullOfAnswers, x -> x.answer(0, 2, 1)),
                full("a forty-first expectation", RefusalsTest::fullOfExpectations, x -> x.expect(1, 2, 7, 8)),
                full("a forty-first order", RefusalsTest::fullOfOrders, x -> x.order(2, 1)),
                full("a sixty-first cue", RefusalsTest::fullOfCues, x -> x.cue(7, 1, 1, 1)),
                full("a run that may do no more", RefusalsTest::wornOut, x -> x.run(10)));
    }

    private static List<Refused> notOnes() {
        return List.of(
                new Refused("method of a face with one below", NOT, RefusalsTest::as, x -> x.method(0, 0, 0, 0, 0)),
                new Refused("method of a face with a stand", NOT, RefusalsTest::as, x -> x.method(1, 0, 0, 0, 0)));
    }

    /** Two like objects, one of which refused something, are seen to be alike still. */
    private static void changesNothing(List<Refused> refusals) {
        List<Function<RehearsalDesk, int[]>> sights = List.of(RefusalsTest::look, RefusalsTest::use, RefusalsTest::tellMore);
        for (Refused r : refusals) {
            for (Function<RehearsalDesk, int[]> sight : sights) {
                RehearsalDesk x = desk();
                RehearsalDesk y = desk();
                r.ahead.accept(x);
                r.ahead.accept(y);
                CHECK.due(r.name, r.call.applyAsInt(x), r.due);
                CHECK.due(r.name + ", once more", r.call.applyAsInt(x), r.due);
                CHECK.row("what is seen behind: " + r.name, sight.apply(x), sight.apply(y));
            }
        }
    }

    // ---- the tests

    @Edges.Says(in = "Terms 0",
            words = "BAD -1 (a number is not as told, or names nothing), NOT -2 (as told), FULL -3.")
    static void refusalsAreNumbers() {
        CHECK.due("BAD", RehearsalDesk.BAD, -1);
        CHECK.due("NOT", RehearsalDesk.NOT, -2);
        CHECK.due("FULL", RehearsalDesk.FULL, -3);
        CHECK.due("SPENT", RehearsalDesk.SPENT, -4);
        RehearsalDesk x = new RehearsalDesk();
        CHECK.due("a number is not as told", x.face(-2), -1);
        CHECK.due("a number names nothing", x.face(0), -1);
        x.face(-1);
        x.stand(0, -1);
        CHECK.due("as told", x.method(0, 0, 0, 0, 0), -2);
        fullOfFaces(x);
        x.face(-1);
        x.face(-1);
        CHECK.due("all places are taken", x.face(-1), -3);
    }

    @Edges.Says(in = "Terms 0", words = "Refusals are answers, of several the first:")
    static void ofSeveralTheFirst() {
        List<Refused> several = List.of(
                new Refused("face, BAD and FULL", BAD, RefusalsTest::fullOfFaces, x -> x.face(12)),
                new Refused("method, BAD and NOT", BAD, RefusalsTest::as, x -> x.method(0, 4, 0, 0, 0)),
                new Refused("method, BAD bits and NOT", BAD, RefusalsTest::as, x -> x.method(1, 0, 1, 0, 0)),
                new Refused("method, BAD gives and NOT", BAD, RefusalsTest::as, x -> x.method(1, 0, 0, -1, 0)),
                new Refused("method, BAD kinds and NOT", BAD, RefusalsTest::as, x -> x.method(1, 0, 0, 0, -1)),
                new Refused("method, BAD and FULL", BAD, RefusalsTest::fullOfMethods, x -> x.method(2, 0, 0, 0, 256)),
                new Refused("method, NOT and FULL", NOT, RefusalsTest::fullOfMethodsWithAStand, x -> x.method(2, 0, 0, 0, 0)),
                new Refused("method, all three", BAD, RefusalsTest::fullOfMethodsWithAStand, x -> x.method(2, 0, 0, 3, 0)),
                new Refused("stand, BAD face and FULL", BAD, RefusalsTest::fullOfStands, x -> x.stand(3, 0)),
                new Refused("stand, BAD thing and FULL", BAD, RefusalsTest::fullOfStands, x -> x.stand(0, 6)),
                new Refused("rule, BAD stand and FULL", BAD, RefusalsTest::fullOfRules, x -> x.rule(3, 0)),
                new Refused("rule, BAD method and FULL", BAD, RefusalsTest::fullOfRules, x -> x.rule(0, 3)),
                new Refused("answer, BAD answer and FULL", BAD, RefusalsTest::fullOfAnswers, x -> x.answer(0, 6, 0)),
                new Refused("answer, BAD stand and FULL", BAD, RefusalsTest::fullOfAnswers, x -> x.answer(0, 1, 3)),
                new Refused("answer, BAD kind and FULL", BAD, RefusalsTest::fullOfAnswers, x -> x.answer(0, 2, 8)),
                new Refused("answer, BAD parameter and FULL", BAD, RefusalsTest::fullOfAnswers, x -> x.answer(0, 4, 3)),
                new Refused("expect, BAD stand and FULL", BAD, RefusalsTest::fullOfExpectations, x -> x.expect(3, 0, 0, 0)),
                new Refused("expect, BAD numbers and FULL", BAD, RefusalsTest::fullOfExpectations, x -> x.expect(0, 0, 1, 0)),
                new Refused("order, BAD and FULL", BAD, RefusalsTest::fullOfOrders, x -> x.order(0, 3)),
                new Refused("order, one and FULL", BAD, RefusalsTest::fullOfOrders, x -> x.order(0, 0)),
                new Refused("cue, BAD kind and FULL", BAD, RefusalsTest::fullOfCues, x -> x.cue(10, 0, 0, 0)),
                new Refused("cue, BAD number and FULL", BAD, RefusalsTest::fullOfCues, x -> x.cue(6, 0, 0, 0)),
                new Refused("run, too few and FULL", BAD, RefusalsTest::wornOut, x -> x.run(0)),
                new Refused("run, too many and FULL", BAD, RefusalsTest::wornOut, x -> x.run(MIN)));
        changesNothing(several);
    }

    private static void fullOfMethodsWithAStand(RehearsalDesk x) {
        fullOfMethods(x);
        x.stand(2, -1);
    }

    @Edges.Says(in = "Terms 0", words = "What is refused changes nothing.")
    static void refusedChangesNothing() {
        changesNothing(badOnes());
        changesNothing(notOnes());
        changesNothing(fullOnes());
    }
}
