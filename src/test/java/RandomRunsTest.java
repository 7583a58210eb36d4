import java.util.ArrayList;
import java.util.Arrays;
import java.util.List;
import java.util.Random;

/** All promises: runs of 512 calls, drawn from fixed seeds, are answered as Model answers them. */
public final class RandomRunsTest {
    private static final int RUNS = 6000, CALLS = 512;
    private static final Check CHECK = new Check("RandomRunsTest");

    private final Random random;
    private final RehearsalDesk desk = new RehearsalDesk();
    private final Model model = new Model();
    private final List<String> calls = new ArrayList<>();
    // How wild the numbers of this run are: one in so many.
    private final int wild;
    private final int looks;
    // The numbers of each call that this run draws from, so that runs dwell on different parts.
    private final int[] weights = new int[NAMES.length];

    private static final String[] NAMES = {
        "face", "method", "stand", "of", "level", "rule", "on", "answer", "caught", "call", "came", "recorded", "expect",
        "with", "order", "beside", "met", "verify", "wrong", "cue", "clear", "run", "desk", "told", "count", "forget",
    };
    private static final int[] USUAL = {
        3, 8, 6, 2, 2, 12, 16, 18, 4, 40, 6, 6, 8, 8, 5, 3, 4, 4, 6, 50, 1, 12, 6, 4, 4, 1,
    };

    private RandomRunsTest(long seed) {
        random = new Random(seed);
        wild = 5 + random.nextInt(60);
        looks = random.nextInt(3);
        for (int i = 0; i < weights.length; i++) {
            int scale = random.nextInt(5);
            weights[i] = USUAL[i] * (scale == 0 ? 1 : scale == 1 ? 20 : 5);
        }
        weights[25] = random.nextInt(3);
        weights[20] = random.nextInt(8);
    }

    public static void main(String[] args) {
        for (int seed = 1; seed <= RUNS; seed++) {
            if (!new RandomRunsTest(seed).isAsDue(seed)) {
                break;
            }
        }
        CHECK.end();
    }

    private boolean isAsDue(int seed) {
        if (seed % 8 != 0 && !begin()) {
            return false;
        }
        while (calls.size() < CALLS) {
            String name = NAMES[draw()];
            if (!both(name, numbers(name))) {
                return false;
            }
            if (looks > 0 && (name.equals("call") || name.equals("run")) && !look(name)) {
                return false;
            }
        }
        CHECK.due("seed " + seed, 0, 0);
        return true;
    }

    /** Most runs begin with some faces and stands, or else they would be refused for long. */
    private boolean begin() {
        int faces = 1 + random.nextInt(3);
        for (int face = 0; face < faces; face++) {
            if (!both("face", random.nextInt(face + 1) - 1)) {
                return false;
            }
            int methods = random.nextInt(4);
            for (int i = 0; i < methods; i++) {
                if (!both("method", methodOf(face))) {
                    return false;
                }
            }
        }
        int stands = random.nextInt(5);
        for (int i = 0; i < stands; i++) {
            if (!both("stand", random.nextInt(faces), random.nextInt(4) - 1)) {
                return false;
            }
        }
        return true;
    }

    private boolean look(String name) {
        boolean same = true;
        if (name.equals("call")) {
            for (int what = 0; what < 4 && same; what++) {
                same = both("came", what);
            }
            return same;
        }
        for (int i = 0; i < 12 && same; i++) {
            same = looks == 1 && random.nextInt(3) > 0 || both("desk", i);
        }
        return same && both("count", 3) && both("count", 8) && both("count", 9);
    }

    private int draw() {
        int sum = Arrays.stream(weights).sum();
        int at = random.nextInt(sum);
        int i = 0;
        while (at >= weights[i]) {
            at -= weights[i];
            i++;
        }
        return i;
    }

    private int below(int size) {
        if (random.nextInt(wild) == 0) {
            int[] odd = {-1, -2, size, size + 1, Integer.MIN_VALUE, Integer.MAX_VALUE, 31, 32, 33, 64, 1000, 1001};
            return odd[random.nextInt(odd.length)];
        }
        return size <= 0 ? 0 : random.nextInt(size);
    }

    /** A number that is there, of those that count(what) tells. */
    private int there(int what) {
        return below(model.does("count", what));
    }

    private int thereOrNone(int what) {
        return random.nextInt(4) == 0 ? -1 : there(what);
    }

    private int whole() {
        int kind = random.nextInt(20);
        if (kind == 0) {
            return random.nextInt();
        }
        if (kind == 1) {
            return random.nextBoolean() ? Integer.MAX_VALUE : Integer.MIN_VALUE;
        }
        return kind < 6 ? random.nextInt(400) - 100 : random.nextInt(7) - 1;
    }

    /** What may be a whole or a stand. */
    private int either() {
        return random.nextBoolean() ? whole() : thereOrNone(1);
    }

    private int[] methodOf(int face) {
        int n = below(4);
        int bits = n >= 0 && n <= 3 ? below(1 << n) : 0;
        int fails = random.nextInt(3) == 0 ? 255 : below(256);
        return new int[] {face, n, bits, below(3), fails};
    }

    private int[] condition(int pattern) {
        return new int[] {pattern, below(random.nextBoolean() ? 1 : 3), below(7), either(), whole()};
    }

    private int[] numbers(String name) {
        switch (name) {
            case "face": return new int[] {thereOrNone(0)};
            case "method": return methodOf(there(0));
            case "stand": return new int[] {there(0), below(7) - 1};
            case "of": return new int[] {there(1), there(0)};
            case "level": return new int[] {below(6)};
            case "rule": return new int[] {there(1), below(3)};
            case "on": return condition(there(2));
            case "answer": return new int[] {there(2), below(6), random.nextBoolean() ? either() : random.nextInt(3)};
            case "caught": return new int[] {there(2), below(2)};
            case "call": return new int[] {there(1), below(3), either(), either(), either()};
            case "came": return new int[] {below(4)};
            case "recorded": return new int[] {there(3), below(9)};
            case "expect": return new int[] {there(1), below(3), below(3), below(6)};
            case "with": return condition(there(5));
            case "order": return new int[] {there(5), there(5)};
            case "beside": return new int[] {there(1), random.nextInt(2)};
            case "met": return new int[] {there(5)};
            case "wrong": return new int[] {below(random.nextBoolean() ? 5 : 61), below(3)};
            case "cue": return cue();
            case "run": return new int[] {random.nextInt(3) == 0 ? below(1001) : 1 + random.nextInt(60)};
            case "desk": return new int[] {below(12)};
            case "told": return new int[] {there(9)};
            case "count": return new int[] {below(22)};
            default: return new int[0];
        }
    }

    private int[] cue() {
        int kind = random.nextInt(3) == 0 ? 6 : below(10);
        int size = model.does("count", 7);
        int near = Math.max(0, Math.min(60, size + random.nextInt(9) - 4));
        switch (kind) {
            case 0: return new int[] {0, below(8), whole(), 0};
            case 1: return new int[] {1, below(8), below(8), 0};
            case 2: return new int[] {2, below(4), thereOrNone(1), 0};
            case 3: return new int[] {3, below(2), below(3), 0};
            case 4: return new int[] {4, random.nextInt(3) == 0 ? below(61) : near, 0, 0};
            case 5: return new int[] {5, below(8), below(8), near};
            case 6: return new int[] {6, 1 + below(random.nextBoolean() ? 5 : 59), near, 0};
            case 7: return new int[] {7, below(12), 0, 0};
            case 8: return new int[] {8, below(4), below(4), below(8)};
            default: return new int[] {kind, below(8), whole(), whole()};
        }
    }

    // What an object answers behind its last promised call is free, and so it is not asked.
    private boolean both(String name, int... n) {
        if (calls.size() >= CALLS) {
            return true;
        }
        int got = ask(name, n);
        int due = model.does(name, n);
        calls.add(name + Arrays.toString(n) + " = " + due);
        if (got != due) {
            calls.forEach(System.out::println);
            CHECK.due("call " + calls.size() + " of the run above", got, due);
        }
        return got == due;
    }

    private int ask(String name, int[] n) {
        switch (name) {
            case "face": return desk.face(n[0]);
            case "method": return desk.method(n[0], n[1], n[2], n[3], n[4]);
            case "stand": return desk.stand(n[0], n[1]);
            case "of": return desk.of(n[0], n[1]);
            case "level": return desk.level(n[0]);
            case "rule": return desk.rule(n[0], n[1]);
            case "on": return desk.on(n[0], n[1], n[2], n[3], n[4]);
            case "answer": return desk.answer(n[0], n[1], n[2]);
            case "caught": return desk.caught(n[0], n[1]);
            case "call": return desk.call(n[0], n[1], n[2], n[3], n[4]);
            case "came": return desk.came(n[0]);
            case "recorded": return desk.recorded(n[0], n[1]);
            case "expect": return desk.expect(n[0], n[1], n[2], n[3]);
            case "with": return desk.with(n[0], n[1], n[2], n[3], n[4]);
            case "order": return desk.order(n[0], n[1]);
            case "beside": return desk.beside(n[0], n[1] == 1);
            case "met": return desk.met(n[0]);
            case "verify": return desk.verify();
            case "wrong": return desk.wrong(n[0], n[1]);
            case "cue": return desk.cue(n[0], n[1], n[2], n[3]);
            case "clear": return desk.clear();
            case "run": return desk.run(n[0]);
            case "desk": return desk.desk(n[0]);
            case "told": return desk.told(n[0]);
            case "count": return desk.count(n[0]);
            default: return desk.forget();
        }
    }
}
