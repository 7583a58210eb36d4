import java.util.Arrays;

/**
 * Rehearsal doubles for a lighting desk: stands of told faces that record each call and answer by
 * taught rules, expectations of those calls, and a desk whose cues are run with them.
 *
 * <p>Every row is made with the object and used again, so that no call makes anything.
 */
public final class RehearsalDesk {
    public static final int BAD = -1, NOT = -2, FULL = -3, SPENT = -4;

    // No stand, no rule, no kind, no signature.
    private static final int NONE = -1;
    // Where any small number can be an answer, a refusal is told this much lower.
    private static final int LOWER = 1000;
    private static final int PARAMETERS = 3;
    private static final int LAMPS = 6;

    private static final int GIVES_WHOLE = 1, GIVES_STAND = 2;
    private static final int ALL_KINDS = 255;
    private static final int LEVEL_BEYOND = 7, NOT_DECLARED = 8;
    private static final int NO_STAND_THERE = 9, NO_SUCH_METHOD = 10, TOO_MANY_TRIES = 11;

    private static final int ANSWERED = 0, FAILED = 1, UNDECLARED = 2, UNTAUGHT = 3;

    // The columns of a call, in the order in which recorded() tells them.
    private static final int STAND = 0, METHOD = 1, CAME = 2, HOW = 5, RULE = 6, GAVE = 7, KIND = 8;
    private static final int COLUMNS = 9;

    private static final int MOST_CUES_IN_A_RUN = 1000;

    private final Faces faces;
    private final Stands cast;
    private final Rules rules;
    private final Log log;
    private final Stage stage;
    private final Expectations expectations;
    private final Wrongs wrongs;
    private final Cues cues;
    private final Board board;

    public RehearsalDesk() {
        faces = new Faces();
        cast = new Stands(faces);
        rules = new Rules(new Patterns(Rules.MOST, faces, cast), faces, cast);
        log = new Log();
        stage = new Stage(faces, cast, rules, log);
        expectations = new Expectations(new Patterns(Expectations.MOST, faces, cast));
        wrongs = new Wrongs();
        cues = new Cues();
        board = new Board(cues, faces, cast, stage);
    }

    // ---- 1 faces and stands

    public int face(int below) {
        if (below != NONE && !faces.has(below)) {
            return BAD;
        }
        return faces.add(below);
    }

    public int method(int face, int n, int stands, int gives, int fails) {
        if (!faces.has(face) || n < 0 || n > PARAMETERS || stands < 0 || stands >= 1 << n) {
            return BAD;
        }
        if (gives < 0 || gives > GIVES_STAND || fails < 0 || fails > ALL_KINDS) {
            return BAD;
        }
        if (faces.isFixed(face)) {
            return NOT;
        }
        return faces.addMethod(face, n, stands, gives, fails);
    }

    public int stand(int face, int thing) {
        if (!faces.has(face) || thing < NONE || thing >= LAMPS) {
            return BAD;
        }
        return cast.add(face, thing);
    }

    public int of(int stand, int face) {
        if (!cast.has(stand) || !faces.has(face)) {
            return BAD;
        }
        return cast.isOf(stand, face) ? 1 : 0;
    }

    public int level(int thing) {
        if (thing < 0 || thing >= LAMPS) {
            return BAD;
        }
        return stage.levels[thing];
    }

    // ---- 2 rules and calls

    public int rule(int stand, int method) {
        int signature = cast.signature(stand, method);
        if (signature == NONE) {
            return BAD;
        }
        return rules.patterns.add(stand, method, signature);
    }

    public int on(int rule, int i, int condition, int a, int b) {
        int done = rules.patterns.setCondition(rule, i, condition, a, b);
        if (done != BAD) {
            rules.release(rule, i);
        }
        return done;
    }

    public int answer(int rule, int answer, int v) {
        if (!rules.patterns.has(rule) || !rules.isAnswer(rule, answer, v)) {
            return BAD;
        }
        return rules.addAnswer(rule, answer, v);
    }

    public int caught(int rule, int i) {
        if (!rules.patterns.hasParameter(rule, i)) {
            return BAD - LOWER;
        }
        return rules.holdsCaught(rule, i) ? rules.caughtValue(rule, i) : NOT - LOWER;
    }

    public int call(int stand, int method, int x, int y, int z) {
        int signature = cast.signature(stand, method);
        if (signature == NONE) {
            return BAD;
        }
        if (!canCome(signature, 0, x) || !canCome(signature, 1, y) || !canCome(signature, 2, z)) {
            return BAD;
        }
        stage.begin(stand, method, signature);
        stage.bring(0, x);
        stage.bring(1, y);
        stage.bring(2, z);
        stage.perform();
        return log.latest[HOW];
    }

    private boolean canCome(int signature, int i, int value) {
        return !faces.takesStand(signature, i) || value == NONE || cast.has(value);
    }

    public int came(int what) {
        if (!log.hasLatest()) {
            return BAD - LOWER;
        }
        switch (what) {
            case 0: return log.latest[HOW];
            case 1: return log.latest[GAVE];
            case 2: return log.latest[KIND];
            case 3: return log.latest[RULE];
            default: return BAD - LOWER;
        }
    }

    public int recorded(int i, int what) {
        if (i < 0 || i >= log.size() || what < 0 || what >= COLUMNS) {
            return BAD - LOWER;
        }
        return log.column(i, what);
    }

    // ---- 3 expectations

    public int expect(int stand, int method, int least, int most) {
        int signature = cast.signature(stand, method);
        if (signature == NONE || least < 0 || most < least) {
            return BAD;
        }
        return expectations.add(stand, method, signature, least, most);
    }

    public int with(int expectation, int i, int condition, int a, int b) {
        return expectations.patterns.setCondition(expectation, i, condition, a, b);
    }

    public int order(int first, int second) {
        Patterns patterns = expectations.patterns;
        if (!patterns.has(first) || !patterns.has(second) || first == second) {
            return BAD;
        }
        return expectations.addOrder(first, second);
    }

    public int beside(int stand, boolean none) {
        if (!cast.has(stand)) {
            return BAD;
        }
        return cast.setNoneBeside(stand, none) ? 1 : 0;
    }

    public int met(int expectation) {
        if (!expectations.patterns.has(expectation)) {
            return BAD;
        }
        return expectations.countMeeting(expectation, log);
    }

    public int verify() {
        expectations.survey(log);
        wrongs.find(expectations, log, cast);
        return wrongs.size();
    }

    public int wrong(int i, int what) {
        if (i < 0 || i >= wrongs.size() || what < 0 || what >= Wrongs.PARTS) {
            return BAD;
        }
        return wrongs.part(i, what);
    }

    // ---- 4 the desk

    public int cue(int kind, int a, int b, int c) {
        if (!Cues.isCue(kind, a, b, c)) {
            return BAD;
        }
        return cues.add(kind, a, b, c);
    }

    public int clear() {
        return cues.removeAll();
    }

    // The loop stands here, not in the board, to keep the calls of a cue few deep.
    public int run(int n) {
        if (n < 1 || n > MOST_CUES_IN_A_RUN) {
            return BAD;
        }
        if (board.isWornOut()) {
            return FULL;
        }
        board.begin();
        for (int i = 0; i < n && board.isAtCue(); i++) {
            int kind = board.doCue();
            if (kind != NONE && !board.recover(kind)) {
                return kind + 1;
            }
            board.arrive();
        }
        return board.isAtCue() ? SPENT : 0;
    }

    public int desk(int i) {
        if (i < 0 || i >= Board.WHOLES + Board.STANDS) {
            return BAD - LOWER;
        }
        return i < Board.WHOLES ? board.wholes[i] : board.held[i - Board.WHOLES];
    }

    public int told(int i) {
        if (i < 0 || i >= board.toldSize()) {
            return BAD - LOWER;
        }
        return board.toldNumber(i);
    }

    public int count(int what) {
        switch (what) {
            case 0: return faces.size();
            case 1: return cast.size();
            case 2: return rules.patterns.size();
            case 3: return log.size();
            case 4: return log.lost();
            case 5: return expectations.patterns.size();
            case 6: return expectations.orders();
            case 7: return cues.size();
            case 8: return board.cuesDone();
            case 9: return board.toldSize();
            default: return countMethods(what);
        }
    }

    private int countMethods(int what) {
        if (what < 10 || !faces.has(what - 10)) {
            return BAD;
        }
        return faces.methods(what - 10);
    }

    public int forget() {
        int size = log.size();
        log.empty();
        rules.startAgain();
        board.emptyTold();
        Arrays.fill(stage.levels, 0);
        return size;
    }

    /** The faces; a signature is the place of a face's method among the methods of all faces. */
    static final class Faces {
        static final int MOST = 12, METHODS = 8;

        private int size = 0;
        private final int[] methods = new int[MOST];
        // Bit f of a face's lineage: it is face f, or below it.
        private final int[] lineage = new int[MOST];
        // A face with a stand, or with one below it, takes no more methods.
        private final boolean[] fixed = new boolean[MOST];
        private final int[] parameters = new int[MOST * METHODS];
        private final int[] standBits = new int[MOST * METHODS];
        private final int[] gives = new int[MOST * METHODS];
        private final int[] fails = new int[MOST * METHODS];

        int size() {
            return size;
        }

        boolean has(int face) {
            return face >= 0 && face < size;
        }

        int add(int below) {
            if (size >= MOST) {
                return FULL;
            }
            int made = size;
            lineage[made] = 1 << made;
            if (has(below)) {
                inherit(made, below);
            }
            size++;
            return made;
        }

        private void inherit(int face, int below) {
            int to = face * METHODS;
            int from = below * METHODS;
            lineage[face] |= lineage[below];
            methods[face] = methods[below];
            System.arraycopy(parameters, from, parameters, to, METHODS);
            System.arraycopy(standBits, from, standBits, to, METHODS);
            System.arraycopy(gives, from, gives, to, METHODS);
            System.arraycopy(fails, from, fails, to, METHODS);
            fixed[below] = true;
        }

        boolean isFixed(int face) {
            return fixed[face];
        }

        void fix(int face) {
            fixed[face] = true;
        }

        int addMethod(int face, int n, int stands, int given, int kinds) {
            int made = methods[face];
            if (made >= METHODS) {
                return FULL;
            }
            int signature = face * METHODS + made;
            parameters[signature] = n;
            standBits[signature] = stands;
            gives[signature] = given;
            fails[signature] = kinds;
            methods[face]++;
            return made;
        }

        int methods(int face) {
            return methods[face];
        }

        int lineage(int face) {
            return lineage[face];
        }

        int signature(int face, int method) {
            if (method < 0 || method >= methods[face]) {
                return NONE;
            }
            return face * METHODS + method;
        }

        boolean takes(int signature, int i) {
            return i >= 0 && i < parameters[signature];
        }

        boolean takesStand(int signature, int i) {
            return takes(signature, i) && (standBits[signature] >> i & 1) == 1;
        }

        int gives(int signature) {
            return gives[signature];
        }

        boolean mayFail(int signature, int kind) {
            return (fails[signature] >> kind & 1) == 1;
        }
    }

    /** The stands, with what each is of, watches, and whether it has none beside. */
    static final class Stands {
        static final int MOST = 24;

        private final Faces faces;
        private int size = 0;
        private final int[] face = new int[MOST];
        private final int[] lineage = new int[MOST];
        private final int[] thing = new int[MOST];
        private final boolean[] noneBeside = new boolean[MOST];

        Stands(Faces faces) {
            this.faces = faces;
        }

        int size() {
            return size;
        }

        boolean has(int stand) {
            return stand >= 0 && stand < size;
        }

        int add(int ofFace, int watched) {
            if (size >= MOST) {
                return FULL;
            }
            int made = size;
            face[made] = ofFace;
            lineage[made] = faces.lineage(ofFace);
            thing[made] = watched;
            faces.fix(ofFace);
            size++;
            return made;
        }

        boolean isOf(int stand, int ofFace) {
            return (lineage[stand] >> ofFace & 1) == 1;
        }

        int thing(int stand) {
            return thing[stand];
        }

        int signature(int stand, int method) {
            return has(stand) ? faces.signature(face[stand], method) : NONE;
        }

        boolean hasNoneBeside(int stand) {
            return noneBeside[stand];
        }

        boolean setNoneBeside(int stand, boolean none) {
            boolean before = noneBeside[stand];
            noneBeside[stand] = none;
            return before;
        }
    }

    /** What rules and expectations share: a stand, a method, a condition for each parameter. */
    static final class Patterns {
        static final int ANY = 0, EQUAL = 1, BETWEEN = 2, NOT_EQUAL = 3, OF_FACE = 4, NO_STAND = 5;
        static final int CATCHING = 6;

        private final int most;
        private final Faces faces;
        private final Stands cast;
        private int size = 0;
        private final int[] stands;
        private final int[] methods;
        private final int[] signatures;
        private final int[] conditions;
        private final int[] lows;
        private final int[] highs;

        Patterns(int most, Faces faces, Stands cast) {
            this.most = most;
            this.faces = faces;
            this.cast = cast;
            stands = new int[most];
            methods = new int[most];
            signatures = new int[most];
            conditions = new int[most * PARAMETERS];
            lows = new int[most * PARAMETERS];
            highs = new int[most * PARAMETERS];
        }

        int size() {
            return size;
        }

        boolean has(int pattern) {
            return pattern >= 0 && pattern < size;
        }

        int add(int stand, int method, int signature) {
            if (size >= most) {
                return FULL;
            }
            int made = size;
            stands[made] = stand;
            methods[made] = method;
            signatures[made] = signature;
            size++;
            return made;
        }

        int signature(int pattern) {
            return signatures[pattern];
        }

        boolean hasParameter(int pattern, int i) {
            return has(pattern) && faces.takes(signatures[pattern], i);
        }

        boolean isCatching(int pattern, int i) {
            return conditions[pattern * PARAMETERS + i] == CATCHING;
        }

        int setCondition(int pattern, int i, int condition, int a, int b) {
            if (!hasParameter(pattern, i)) {
                return BAD;
            }
            if (!isCondition(faces.takesStand(signatures[pattern], i), condition, a)) {
                return BAD;
            }
            int place = pattern * PARAMETERS + i;
            conditions[place] = condition;
            lows[place] = a;
            highs[place] = b;
            return 1;
        }

        private boolean isCondition(boolean ofStand, int condition, int a) {
            switch (condition) {
                case ANY: return true;
                case EQUAL: return !ofStand || cast.has(a);
                case BETWEEN: return !ofStand;
                case NOT_EQUAL: return !ofStand || cast.has(a);
                case OF_FACE: return ofStand && faces.has(a);
                case NO_STAND: return ofStand;
                case CATCHING: return true;
                default: return false;
            }
        }

        /** Whether the call that starts there in the rows is as the pattern says. */
        boolean fits(int pattern, int[] rows, int start) {
            if (stands[pattern] != rows[start + STAND] || methods[pattern] != rows[start + METHOD]) {
                return false;
            }
            for (int i = 0; i < PARAMETERS; i++) {
                if (!holds(pattern * PARAMETERS + i, rows[start + CAME + i])) {
                    return false;
                }
            }
            return true;
        }

        // A stand that is none is a number that no stand has, so numbers alone can be compared.
        private boolean holds(int place, int value) {
            switch (conditions[place]) {
                case EQUAL: return value == lows[place];
                case BETWEEN: return lows[place] <= value && value <= highs[place];
                case NOT_EQUAL: return value != lows[place];
                case OF_FACE: return value != NONE && cast.isOf(value, lows[place]);
                case NO_STAND: return value == NONE;
                default: return true;
            }
        }
    }

    /** The rules: patterns with a row of answers, and with what they caught. */
    static final class Rules {
        static final int MOST = 80, ANSWERS = 6;
        static final int WHOLE = 0, OTHER_STAND = 1, FAILURE = 2, SUM = 3, PARAMETER = 4, THROUGH = 5;
        private static final int LAST_TAUGHT_KIND = 7;

        final Patterns patterns;
        private final Faces faces;
        private final Stands cast;
        private final int[] answers = new int[MOST];
        private final int[] answerKinds = new int[MOST * ANSWERS];
        private final int[] answerValues = new int[MOST * ANSWERS];
        private final int[] calls = new int[MOST];
        private final boolean[] hasCaught = new boolean[MOST * PARAMETERS];
        private final int[] caughtValues = new int[MOST * PARAMETERS];

        Rules(Patterns patterns, Faces faces, Stands cast) {
            this.patterns = patterns;
            this.faces = faces;
            this.cast = cast;
        }

        boolean isAnswer(int rule, int answer, int v) {
            switch (answer) {
                case WHOLE: return true;
                case OTHER_STAND: return v == NONE || cast.has(v);
                case FAILURE: return v >= 0 && v <= LAST_TAUGHT_KIND;
                case SUM: return true;
                case PARAMETER: return faces.takes(patterns.signature(rule), v);
                case THROUGH: return true;
                default: return false;
            }
        }

        int addAnswer(int rule, int answer, int v) {
            if (answers[rule] >= ANSWERS) {
                return FULL;
            }
            int place = rule * ANSWERS + answers[rule];
            answerKinds[place] = answer;
            answerValues[place] = v;
            answers[rule]++;
            return answers[rule];
        }

        int find(int[] call) {
            for (int rule = patterns.size() - 1; rule >= 0; rule--) {
                if (answers[rule] > 0 && patterns.fits(rule, call, 0)) {
                    return rule;
                }
            }
            return NONE;
        }

        /** Counts and catches a call by a rule; answers the place of the answer that is due. */
        int use(int rule, int[] call) {
            for (int i = 0; i < PARAMETERS; i++) {
                if (patterns.isCatching(rule, i)) {
                    hasCaught[rule * PARAMETERS + i] = true;
                    caughtValues[rule * PARAMETERS + i] = call[CAME + i];
                }
            }
            int due = Math.min(calls[rule], answers[rule] - 1);
            // Beyond the longest row the number does not matter, and so it never goes round.
            calls[rule] = Math.min(calls[rule] + 1, ANSWERS);
            return rule * ANSWERS + due;
        }

        int answerKind(int place) {
            return answerKinds[place];
        }

        int answerValue(int place) {
            return answerValues[place];
        }

        boolean holdsCaught(int rule, int i) {
            return hasCaught[rule * PARAMETERS + i];
        }

        int caughtValue(int rule, int i) {
            return caughtValues[rule * PARAMETERS + i];
        }

        void release(int rule, int i) {
            hasCaught[rule * PARAMETERS + i] = false;
        }

        void startAgain() {
            Arrays.fill(calls, 0);
            for (int i = 0; i < hasCaught.length; i++) {
                hasCaught[i] = false;
            }
        }
    }

    /** The recorded calls, and the latest one, which may be lost to them. */
    static final class Log {
        static final int MOST = 500;

        final int[] rows = new int[MOST * COLUMNS];
        final int[] latest = new int[COLUMNS];
        private boolean any = false;
        private int size = 0;
        private int lost = 0;

        boolean hasLatest() {
            return any;
        }

        int size() {
            return size;
        }

        int lost() {
            return lost;
        }

        int column(int i, int what) {
            return rows[i * COLUMNS + what];
        }

        void keepLatest() {
            any = true;
            if (size >= MOST) {
                lost++;
                return;
            }
            System.arraycopy(latest, 0, rows, size * COLUMNS, COLUMNS);
            size++;
        }

        void empty() {
            size = 0;
            lost = 0;
        }
    }

    /** Where a call is done, from outside or by a cue: begin, bring what comes, perform. */
    static final class Stage {
        private static final int BRIGHTEST = 255;

        private final Faces faces;
        private final Stands cast;
        private final Rules rules;
        private final Log log;
        // The log's row of the latest call.
        final int[] now;
        final int[] levels = new int[LAMPS];
        private int signature = 0;
        private int sumOfWholes = 0;

        Stage(Faces faces, Stands cast, Rules rules, Log log) {
            this.faces = faces;
            this.cast = cast;
            this.rules = rules;
            this.log = log;
            now = log.latest;
        }

        void begin(int stand, int method, int itsSignature) {
            signature = itsSignature;
            sumOfWholes = 0;
            now[STAND] = stand;
            now[METHOD] = method;
            for (int i = 0; i < PARAMETERS; i++) {
                now[CAME + i] = 0;
            }
        }

        void bring(int i, int value) {
            if (!faces.takes(signature, i)) {
                return;
            }
            now[CAME + i] = value;
            if (!faces.takesStand(signature, i)) {
                sumOfWholes += value;
            }
        }

        void perform() {
            int rule = rules.find(now);
            now[HOW] = ANSWERED;
            now[RULE] = rule;
            now[GAVE] = faces.gives(signature) == GIVES_STAND ? NONE : 0;
            now[KIND] = NONE;
            if (rule == NONE) {
                callThrough();
            } else {
                answerBy(rules.use(rule, now));
            }
            log.keepLatest();
        }

        private void answerBy(int place) {
            int v = rules.answerValue(place);
            switch (rules.answerKind(place)) {
                case Rules.WHOLE: giveWhole(v); break;
                case Rules.OTHER_STAND: giveStand(v); break;
                case Rules.FAILURE: failWith(v); break;
                case Rules.SUM: giveWhole(v + sumOfWholes); break;
                case Rules.PARAMETER: giveParameter(v); break;
                default: callThrough(); break;
            }
        }

        private void callThrough() {
            int thing = cast.thing(now[STAND]);
            if (thing == NONE) {
                now[HOW] = UNTAUGHT;
                return;
            }
            int level = levels[thing] + sumOfWholes;
            if (level < 0 || level > BRIGHTEST) {
                failWith(LEVEL_BEYOND);
                return;
            }
            levels[thing] = level;
            giveWhole(level);
        }

        private void giveParameter(int i) {
            if (faces.takesStand(signature, i)) {
                giveStand(now[CAME + i]);
            } else {
                giveWhole(now[CAME + i]);
            }
        }

        private void giveWhole(int v) {
            if (faces.gives(signature) == GIVES_WHOLE) {
                now[GAVE] = v;
            }
        }

        private void giveStand(int v) {
            if (faces.gives(signature) == GIVES_STAND) {
                now[GAVE] = v;
            }
        }

        private void failWith(int kind) {
            boolean declared = faces.mayFail(signature, kind);
            now[HOW] = declared ? FAILED : UNDECLARED;
            now[KIND] = declared ? kind : NOT_DECLARED;
        }
    }

    /** The expectations and their orders; a survey finds which recorded calls meet which. */
    static final class Expectations {
        static final int MOST = 40, ORDERS = 40;

        final Patterns patterns;
        private final int[] least = new int[MOST];
        private final int[] most = new int[MOST];
        private int orders = 0;
        private final int[] orderFirst = new int[ORDERS];
        private final int[] orderSecond = new int[ORDERS];
        // As the latest survey found them.
        private final int[] meeting = new int[MOST];
        private final int[] firstCall = new int[MOST];
        private final int[] lastCall = new int[MOST];
        private final boolean[] expected = new boolean[Log.MOST];

        Expectations(Patterns patterns) {
            this.patterns = patterns;
        }

        int add(int stand, int method, int signature, int fewest, int highest) {
            int made = patterns.add(stand, method, signature);
            if (made != FULL) {
                least[made] = fewest;
                most[made] = highest;
            }
            return made;
        }

        int orders() {
            return orders;
        }

        int addOrder(int first, int second) {
            if (orders >= ORDERS) {
                return FULL;
            }
            orderFirst[orders] = first;
            orderSecond[orders] = second;
            orders++;
            return orders;
        }

        int countMeeting(int expectation, Log log) {
            int found = 0;
            for (int call = 0; call < log.size(); call++) {
                if (patterns.fits(expectation, log.rows, call * COLUMNS)) {
                    found++;
                }
            }
            return found;
        }

        void survey(Log log) {
            for (int call = 0; call < log.size(); call++) {
                expected[call] = false;
            }
            for (int expectation = 0; expectation < patterns.size(); expectation++) {
                surveyOne(expectation, log);
            }
        }

        private void surveyOne(int expectation, Log log) {
            meeting[expectation] = 0;
            firstCall[expectation] = NONE;
            lastCall[expectation] = NONE;
            for (int call = 0; call < log.size(); call++) {
                if (patterns.fits(expectation, log.rows, call * COLUMNS)) {
                    if (meeting[expectation] == 0) {
                        firstCall[expectation] = call;
                    }
                    lastCall[expectation] = call;
                    meeting[expectation]++;
                    expected[call] = true;
                }
            }
        }

        int meeting(int expectation) {
            return meeting[expectation];
        }

        boolean isTooFew(int expectation) {
            return meeting[expectation] < least[expectation];
        }

        boolean isTooMany(int expectation) {
            return meeting[expectation] > most[expectation];
        }

        boolean isExpected(int call) {
            return expected[call];
        }

        /** The first call of the second that one of the first comes behind, or none. */
        int callAhead(int order) {
            int ahead = firstCall[orderSecond[order]];
            int behind = lastCall[orderFirst[order]];
            return ahead != NONE && ahead < behind ? ahead : NONE;
        }
    }

    /** What was wrong, as found latest. */
    static final class Wrongs {
        static final int PARTS = 3;
        private static final int MOST = 60;
        private static final int TOO_FEW = 1, TOO_MANY = 2, OUT_OF_ORDER = 3;
        private static final int BESIDE = 4, NOT_ALLOWED = 5, NOT_TAUGHT = 6;

        private final int[] rows = new int[MOST * PARTS];
        private int size = 0;

        int size() {
            return size;
        }

        int part(int i, int what) {
            return rows[i * PARTS + what];
        }

        void find(Expectations expectations, Log log, Stands cast) {
            size = 0;
            findNumbers(expectations);
            findOrders(expectations);
            for (int call = 0; call < log.size(); call++) {
                boolean expected = expectations.isExpected(call);
                int how = log.column(call, HOW);
                if (!expected && cast.hasNoneBeside(log.column(call, STAND))) {
                    add(BESIDE, call, 0);
                }
                if (how == UNDECLARED) {
                    add(NOT_ALLOWED, call, 0);
                }
                if (!expected && how == UNTAUGHT) {
                    add(NOT_TAUGHT, call, 0);
                }
            }
        }

        private void findNumbers(Expectations expectations) {
            for (int i = 0; i < expectations.patterns.size(); i++) {
                if (expectations.isTooFew(i)) {
                    add(TOO_FEW, i, expectations.meeting(i));
                } else if (expectations.isTooMany(i)) {
                    add(TOO_MANY, i, expectations.meeting(i));
                }
            }
        }

        private void findOrders(Expectations expectations) {
            for (int order = 0; order < expectations.orders(); order++) {
                int ahead = expectations.callAhead(order);
                if (ahead != NONE) {
                    add(OUT_OF_ORDER, order, ahead);
                }
            }
        }

        private void add(int which, int what, int number) {
            if (size >= MOST) {
                return;
            }
            int start = size * PARTS;
            rows[start] = which;
            rows[start + 1] = what;
            rows[start + 2] = number;
            size++;
        }
    }

    /** The list of cues. */
    static final class Cues {
        static final int LET = 0, ADD = 1, HOLD = 2, CALL = 3, GO = 4, GO_IF_BELOW = 5, TRY = 6;
        static final int FAIL = 7, SAME = 8, TELL = 9;
        private static final int MOST = 60;
        private static final int LOWEST = 0x80000000, HIGHEST = 0x7fffffff;
        private static final int LIMITS_OF_A_KIND = 6;
        // From and to for a, b and c of each kind.
        private static final int[] LIMITS = {
            0, 7, LOWEST, HIGHEST, LOWEST, HIGHEST,
            0, 7, 0, 7, LOWEST, HIGHEST,
            0, 3, -1, 23, LOWEST, HIGHEST,
            0, 3, 0, 7, LOWEST, HIGHEST,
            0, 60, LOWEST, HIGHEST, LOWEST, HIGHEST,
            0, 7, 0, 7, 0, 60,
            1, 59, 0, 60, LOWEST, HIGHEST,
            0, 11, LOWEST, HIGHEST, LOWEST, HIGHEST,
            0, 3, 0, 3, 0, 7,
            0, 7, LOWEST, HIGHEST, LOWEST, HIGHEST,
        };

        private int size = 0;
        final int[] kinds = new int[MOST];
        final int[] as = new int[MOST];
        final int[] bs = new int[MOST];
        final int[] cs = new int[MOST];

        static boolean isCue(int kind, int a, int b, int c) {
            if (kind < LET || kind > TELL) {
                return false;
            }
            int place = kind * LIMITS_OF_A_KIND;
            return isWithin(a, place) && isWithin(b, place + 2) && isWithin(c, place + 4);
        }

        private static boolean isWithin(int value, int place) {
            return LIMITS[place] <= value && value <= LIMITS[place + 1];
        }

        int size() {
            return size;
        }

        int add(int kind, int a, int b, int c) {
            if (size >= MOST) {
                return FULL;
            }
            int made = size;
            kinds[made] = kind;
            as[made] = a;
            bs[made] = b;
            cs[made] = c;
            size++;
            return made;
        }

        int removeAll() {
            int before = size;
            size = 0;
            return before;
        }
    }

    /** The tries that are open, the innermost one last. */
    static final class Tries {
        private static final int MOST = 10;

        private int size = 0;
        private final int[] from = new int[MOST];
        private final int[] to = new int[MOST];
        private final int[] target = new int[MOST];

        void closeAll() {
            size = 0;
        }

        boolean open(int cue, int length, int goesOnAt) {
            if (size >= MOST) {
                return false;
            }
            from[size] = cue + 1;
            to[size] = cue + length;
            target[size] = goesOnAt;
            size++;
            return true;
        }

        // Tries may overlap without one being inside the other, so not only the last can be left.
        void closeLeft(int cue) {
            int kept = 0;
            for (int i = 0; i < size; i++) {
                if (from[i] <= cue && cue <= to[i]) {
                    from[kept] = from[i];
                    to[kept] = to[i];
                    target[kept] = target[i];
                    kept++;
                }
            }
            size = kept;
        }

        /** Closes the innermost try: where it goes on, or none if none is open. */
        int take() {
            if (size == 0) {
                return NONE;
            }
            size--;
            return target[size];
        }
    }

    /** The desk's own wholes and stands, and how a run does its cues with them. */
    static final class Board {
        static final int WHOLES = 8, STANDS = 4;
        private static final int MOST_TOLD = 100, MOST_CUES = 20000;
        private static final int KIND_WHOLE = 6, GIVEN_WHOLE = 7, GIVEN_STAND = 3;

        private final Cues cues;
        private final Faces faces;
        private final Stands cast;
        private final Stage stage;
        private final Tries tries = new Tries();
        final int[] wholes = new int[WHOLES];
        final int[] held = new int[STANDS];
        private final int[] told = new int[MOST_TOLD];
        private int toldSize = 0;
        private int done = 0;
        private int next = 0;

        Board(Cues cues, Faces faces, Stands cast, Stage stage) {
            this.cues = cues;
            this.faces = faces;
            this.cast = cast;
            this.stage = stage;
            Arrays.fill(held, NONE);
        }

        boolean isWornOut() {
            return done >= MOST_CUES;
        }

        int cuesDone() {
            return done;
        }

        void begin() {
            Arrays.fill(wholes, 0);
            Arrays.fill(held, NONE);
            tries.closeAll();
            next = 0;
        }

        boolean isAtCue() {
            return next < cues.size();
        }

        /** Does the next cue: the kind that it failed with, or none. */
        int doCue() {
            int cue = next;
            int a = cues.as[cue];
            int b = cues.bs[cue];
            int c = cues.cs[cue];
            done++;
            next = cue + 1;
            switch (cues.kinds[cue]) {
                case Cues.LET: wholes[a] = b; return NONE;
                case Cues.ADD: wholes[a] += wholes[b]; return NONE;
                case Cues.HOLD: held[a] = cast.has(b) ? b : NONE; return NONE;
                case Cues.CALL: return callHeld(held[a], b);
                case Cues.GO: next = a; return NONE;
                case Cues.GO_IF_BELOW: next = wholes[a] < wholes[b] ? c : next; return NONE;
                case Cues.TRY: return tries.open(cue, a, b) ? NONE : TOO_MANY_TRIES;
                case Cues.FAIL: return a;
                case Cues.SAME: wholes[c] = held[a] == held[b] ? 1 : 0; return NONE;
                default: tell(wholes[a]); return NONE;
            }
        }

        private int callHeld(int stand, int method) {
            if (stand == NONE) {
                return NO_STAND_THERE;
            }
            int signature = cast.signature(stand, method);
            if (signature == NONE) {
                return NO_SUCH_METHOD;
            }
            stage.begin(stand, method, signature);
            bringAll(signature);
            stage.perform();
            if (stage.now[KIND] != NONE) {
                return stage.now[KIND];
            }
            if (faces.gives(signature) == GIVES_WHOLE) {
                wholes[GIVEN_WHOLE] = stage.now[GAVE];
            } else if (faces.gives(signature) == GIVES_STAND) {
                held[GIVEN_STAND] = stage.now[GAVE];
            }
            return NONE;
        }

        private void bringAll(int signature) {
            int wholesBrought = 0;
            int standsBrought = 0;
            for (int i = 0; i < PARAMETERS; i++) {
                if (faces.takesStand(signature, i)) {
                    stage.bring(i, held[standsBrought]);
                    standsBrought++;
                } else {
                    stage.bring(i, wholes[wholesBrought]);
                    wholesBrought++;
                }
            }
        }

        private void tell(int number) {
            if (toldSize < MOST_TOLD) {
                told[toldSize] = number;
                toldSize++;
            }
        }

        /** Whether an open try takes the failure of the cue that was done. */
        boolean recover(int kind) {
            int target = tries.take();
            if (target == NONE) {
                return false;
            }
            wholes[KIND_WHOLE] = kind;
            next = target;
            return true;
        }

        void arrive() {
            tries.closeLeft(next);
        }

        int toldSize() {
            return toldSize;
        }

        int toldNumber(int i) {
            return told[i];
        }

        void emptyTold() {
            toldSize = 0;
        }
    }
}
