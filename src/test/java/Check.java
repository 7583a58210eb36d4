import java.util.Arrays;

/** Counts the answers that are not as due, prints each, and ends a test with its exit code. */
final class Check {
    static final int MIN = Integer.MIN_VALUE, MAX = Integer.MAX_VALUE;

    private final String name;
    private String about = "";
    private int asked = 0;
    private int wrong = 0;

    Check(String name) {
        this.name = name;
    }

    /** What the checks from here on are about: it is printed with those that fail. */
    void about(String what) {
        about = what + ": ";
    }

    int asked() {
        return asked;
    }

    void due(String call, int got, int want) {
        asked++;
        if (got != want) {
            wrong++;
            System.out.println(name + ": " + about + call + " answered " + got + ", due is " + want);
        }
    }

    void holds(String what, boolean is) {
        asked++;
        if (!is) {
            wrong++;
            System.out.println(name + ": " + about + "not so: " + what);
        }
    }

    /** Several answers of one kind of call, first to last. */
    void row(String call, int[] got, int... want) {
        due(call + ": how many", got.length, want.length);
        for (int i = 0; i < Math.min(got.length, want.length); i++) {
            due(call + " [" + i + "]", got[i], want[i]);
        }
    }

    void end() {
        System.out.println(name + ": " + asked + " answers, " + wrong + " not as due");
        if (wrong != 0) {
            System.exit(1);
        }
    }

    /** Numbers below and above a range, next to it and as far as can be. */
    static int[] beyond(int from, int to) {
        return new int[] {from - 1, from - 2, to + 1, to + 2, to + 32, MIN, MIN + 1, MAX - 1, MAX};
    }

    /** What came() tells of the latest call. */
    static int[] came(RehearsalDesk x) {
        return new int[] {x.came(0), x.came(1), x.came(2), x.came(3)};
    }

    static int[] recorded(RehearsalDesk x, int call) {
        int[] row = new int[9];
        for (int what = 0; what < row.length; what++) {
            row[what] = x.recorded(call, what);
        }
        return row;
    }

    /** What wrong() tells of all wrongs, three numbers each. */
    static int[] wrongs(RehearsalDesk x, int size) {
        int[] row = new int[size * 3];
        for (int i = 0; i < row.length; i++) {
            row[i] = x.wrong(i / 3, i % 3);
        }
        return row;
    }

    static int[] desk(RehearsalDesk x) {
        int[] row = new int[12];
        for (int i = 0; i < row.length; i++) {
            row[i] = x.desk(i);
        }
        return row;
    }

    static int[] told(RehearsalDesk x) {
        int[] row = new int[x.count(9)];
        for (int i = 0; i < row.length; i++) {
            row[i] = x.told(i);
        }
        return row;
    }

    /** All that count() tells but for methods: what is refused must leave it as it is. */
    static int[] counts(RehearsalDesk x) {
        int[] row = new int[10];
        for (int what = 0; what < row.length; what++) {
            row[what] = x.count(what);
        }
        return row;
    }

    /** Tells a list of cues anew; numbers that a cue does not name are 0. */
    void retell(RehearsalDesk x, int[]... cues) {
        x.clear();
        for (int i = 0; i < cues.length; i++) {
            int[] c = Arrays.copyOf(cues[i], 4);
            due("cue " + i, x.cue(c[0], c[1], c[2], c[3]), i);
        }
    }

    static int[] c(int... cue) {
        return cue;
    }
}
