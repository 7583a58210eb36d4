import java.util.ArrayDeque;
import java.util.ArrayList;
import java.util.Arrays;
import java.util.HashMap;
import java.util.List;
import java.util.Map;
import java.util.Objects;

/**
 * A second writing of the document, with the whole Java library and with no thought of speed or
 * room, so that a slip in the one is not in the other. Stands are objects here, none is null.
 */
final class Model {
    private static final class Refused extends RuntimeException {
        private static final long serialVersionUID = 1L;
        final int answer;

        Refused(int answer) {
            super(null, null, false, false);
            this.answer = answer;
        }
    }

    private static final class Failure extends Exception {
        private static final long serialVersionUID = 1L;
        final int kind;

        Failure(int kind) {
            super(null, null, false, false);
            this.kind = kind;
        }
    }

    private record Method(boolean[] isStand, int gives, int fails) { }

    private static final class Face {
        Face above;
        boolean hasBelow;
        final List<Method> methods = new ArrayList<>();
    }

    private static final class Stand {
        int number;
        Face face;
        int thing;
        boolean noneBeside;

        boolean isOf(Face wanted) {
            for (Face f = face; f != null; f = f.above) {
                if (f == wanted) {
                    return true;
                }
            }
            return false;
        }
    }

    private record Condition(int kind, int a, int b) { }

    private static class Pattern {
        Stand stand;
        int method;
        Condition[] conditions;
    }

    private static final class Rule extends Pattern {
        final List<int[]> answers = new ArrayList<>();
        final Map<Integer, Object> caught = new HashMap<>();
        int calls;
    }

    private static final class Expectation extends Pattern {
        int least;
        int most;
    }

    /** What came is an Integer, a Stand or null. */
    private static final class Call {
        Stand stand;
        int method;
        Object[] came;
        int how;
        int rule = -1;
        Object gave;
        int kind = -1;
    }

    private record Try(int first, int last, int target) { }

    private final List<Face> faces = new ArrayList<>();
    private final List<Stand> stands = new ArrayList<>();
    private final int[] levels = new int[6];
    private final List<Rule> rules = new ArrayList<>();
    private final List<Call> calls = new ArrayList<>();
    private int lost;
    private Call latest;
    private final List<Expectation> expectations = new ArrayList<>();
    private final List<int[]> orders = new ArrayList<>();
    private List<int[]> wrongs = List.of();
    private final List<int[]> cues = new ArrayList<>();
    private int[] wholes = new int[8];
    private Stand[] held = new Stand[4];
    private final List<Integer> told = new ArrayList<>();
    private int cuesDone;

    /** Does the call of that name with those numbers. */
    int does(String name, int... n) {
        try {
            return switch (name) {
                case "face" -> face(n[0]);
                case "method" -> method(n[0], n[1], n[2], n[3], n[4]);
                case "stand" -> stand(n[0], n[1]);
                case "of" -> of(n[0], n[1]);
                case "level" -> levels[index(n[0], 6)];
                case "rule" -> rule(n[0], n[1]);
                case "on" -> on(n[0], n[1], n[2], n[3], n[4]);
                case "answer" -> answer(n[0], n[1], n[2]);
                case "caught" -> far(() -> caught(n[0], n[1]));
                case "call" -> call(n[0], n[1], n[2], n[3], n[4]);
                case "came" -> far(() -> came(n[0]));
                case "recorded" -> far(() -> recorded(n[0], n[1]));
                case "expect" -> expect(n[0], n[1], n[2], n[3]);
                case "with" -> condition(pick(expectations, n[0]), n[1], n[2], n[3], n[4]);
                case "order" -> order(n[0], n[1]);
                case "beside" -> beside(n[0], n[1] == 1);
                case "met" -> meeting(pick(expectations, n[0])).size();
                case "verify" -> verify();
                case "wrong" -> pick(wrongs, n[0])[index(n[1], 3)];
                case "cue" -> cue(n[0], n[1], n[2], n[3]);
                case "clear" -> clear();
                case "run" -> run(n[0]);
                case "desk" -> far(() -> desk(index(n[0], 12)));
                case "told" -> far(() -> pick(told, n[0]));
                case "count" -> count(n[0]);
                case "forget" -> forget();
                default -> throw new IllegalStateException(name);
            };
        } catch (Refused refused) {
            return refused.answer;
        }
    }

    private interface Answer {
        int get();
    }

    private static int far(Answer answer) {
        try {
            return answer.get();
        } catch (Refused refused) {
            throw new Refused(refused.answer - 1000);
        }
    }

    private static void must(boolean is, int otherwise) {
        if (!is) {
            throw new Refused(otherwise);
        }
    }

    private static int index(int i, int size) {
        must(0 <= i && i < size, -1);
        return i;
    }

    private static <T> T pick(List<T> list, int i) {
        return list.get(index(i, list.size()));
    }

    private static <T> int put(List<T> list, T item, int most) {
        must(list.size() < most, -3);
        list.add(item);
        return list.size() - 1;
    }

    private static int number(Object value) {
        return value == null ? -1 : value instanceof Stand s ? s.number : (Integer) value;
    }

    private int face(int below) {
        Face face = new Face();
        if (below != -1) {
            face.above = pick(faces, below);
            face.methods.addAll(face.above.methods);
        }
        int made = put(faces, face, 12);
        if (face.above != null) {
            face.above.hasBelow = true;
        }
        return made;
    }

    private int method(int face, int n, int bits, int gives, int fails) {
        Face f = pick(faces, face);
        must(n >= 0 && n <= 3, -1);
        boolean[] isStand = new boolean[n];
        int rest = bits;
        for (int i = 0; i < n; i++) {
            isStand[i] = (rest & 1 << i) != 0;
            rest &= ~(1 << i);
        }
        must(rest == 0, -1);
        must(gives == 0 || gives == 1 || gives == 2, -1);
        must((fails & 255) == fails, -1);
        must(!f.hasBelow && stands.stream().noneMatch(s -> s.isOf(f)), -2);
        return put(f.methods, new Method(isStand, gives, fails), 8);
    }

    private int stand(int face, int thing) {
        Stand stand = new Stand();
        stand.face = pick(faces, face);
        stand.thing = index(thing + 1, 7) - 1;
        stand.number = put(stands, stand, 24);
        return stand.number;
    }

    private int of(int stand, int face) {
        return pick(stands, stand).isOf(pick(faces, face)) ? 1 : 0;
    }

    private static Method method(Pattern p) {
        return p.stand.face.methods.get(p.method);
    }

    private <P extends Pattern> P pattern(P p, int stand, int method) {
        p.stand = pick(stands, stand);
        p.method = method;
        p.conditions = new Condition[pick(p.stand.face.methods, method).isStand.length];
        Arrays.fill(p.conditions, new Condition(0, 0, 0));
        return p;
    }

    private int rule(int stand, int method) {
        return put(rules, pattern(new Rule(), stand, method), 80);
    }

    private int condition(Pattern p, int i, int kind, int a, int b) {
        boolean ofStand = method(p).isStand[index(i, p.conditions.length)];
        index(kind, 7);
        if (ofStand) {
            must(kind != 2, -1);
            if (kind == 1 || kind == 3) {
                pick(stands, a);
            }
            if (kind == 4) {
                pick(faces, a);
            }
        } else {
            must(kind != 4 && kind != 5, -1);
        }
        p.conditions[i] = new Condition(kind, a, b);
        return 1;
    }

    private int on(int rule, int i, int kind, int a, int b) {
        Rule r = pick(rules, rule);
        int done = condition(r, i, kind, a, b);
        r.caught.remove(i);
        return done;
    }

    private int answer(int rule, int answer, int v) {
        Rule r = pick(rules, rule);
        index(answer, 6);
        if (answer == 1 && v != -1) {
            pick(stands, v);
        }
        if (answer == 2) {
            index(v, 8);
        }
        if (answer == 4) {
            index(v, r.conditions.length);
        }
        return put(r.answers, new int[] {answer, v}, 6) + 1;
    }

    private int caught(int rule, int i) {
        Rule r = pick(rules, rule);
        index(i, r.conditions.length);
        must(r.conditions[i].kind == 6 && r.caught.containsKey(i), -2);
        return number(r.caught.get(i));
    }

    private int call(int stand, int method, int... xyz) {
        Stand s = pick(stands, stand);
        Method m = pick(s.face.methods, method);
        Object[] came = new Object[m.isStand.length];
        for (int i = 0; i < came.length; i++) {
            came[i] = !m.isStand[i] ? xyz[i] : xyz[i] == -1 ? null : pick(stands, xyz[i]);
        }
        return perform(s, method, came).how;
    }

    private Call perform(Stand stand, int method, Object[] came) {
        Call call = new Call();
        call.stand = stand;
        call.method = method;
        call.came = came;
        Method m = stand.face.methods.get(method);
        for (int i = 0; i < rules.size(); i++) {
            if (!rules.get(i).answers.isEmpty() && meets(call, rules.get(i))) {
                call.rule = i;
            }
        }
        Object gift = null;
        try {
            gift = call.rule < 0 ? through(call) : byRule(call, rules.get(call.rule));
        } catch (Failure failure) {
            boolean may = (m.fails >> failure.kind & 1) == 1;
            call.how = may ? 1 : 2;
            call.kind = may ? failure.kind : 8;
        }
        boolean fits = m.gives == 1 && gift instanceof Integer || m.gives == 2 && gift instanceof Stand;
        call.gave = fits ? gift : m.gives == 2 ? null : Integer.valueOf(0);
        latest = call;
        if (calls.size() < 500) {
            calls.add(call);
        } else {
            lost++;
        }
        return call;
    }

    private Object byRule(Call call, Rule rule) throws Failure {
        for (int i = 0; i < call.came.length; i++) {
            if (rule.conditions[i].kind == 6) {
                rule.caught.put(i, call.came[i]);
            }
        }
        int k = rule.calls++;
        int[] answer = rule.answers.get(k < rule.answers.size() ? k : rule.answers.size() - 1);
        switch (answer[0]) {
            case 0: return answer[1];
            case 1: return answer[1] == -1 ? null : stands.get(answer[1]);
            case 2: throw new Failure(answer[1]);
            case 3: return answer[1] + sum(call);
            case 4: return call.came[answer[1]];
            default: return through(call);
        }
    }

    private static int sum(Call call) {
        long sum = 0;
        for (Object value : call.came) {
            sum += value instanceof Integer whole ? whole : 0;
        }
        return (int) sum;
    }

    private Object through(Call call) throws Failure {
        if (call.stand.thing == -1) {
            call.how = 3;
            return null;
        }
        int level = levels[call.stand.thing] + sum(call);
        if ((level & ~255) != 0) {
            throw new Failure(7);
        }
        levels[call.stand.thing] = level;
        return level;
    }

    private boolean meets(Call call, Pattern p) {
        if (call.stand != p.stand || call.method != p.method) {
            return false;
        }
        boolean all = true;
        for (int i = 0; i < call.came.length; i++) {
            all &= holds(p.conditions[i], call.came[i]);
        }
        return all;
    }

    private boolean holds(Condition c, Object value) {
        switch (c.kind) {
            case 1: return value != null && number(value) == c.a;
            case 2: return (Integer) value >= c.a && (Integer) value <= c.b;
            case 3: return value == null || number(value) != c.a;
            case 4: return value instanceof Stand s && s.isOf(faces.get(c.a));
            case 5: return value == null;
            default: return true;
        }
    }

    private int came(int what) {
        index(what, 4);
        must(latest != null, -1);
        return new int[] {latest.how, number(latest.gave), latest.kind, latest.rule}[what];
    }

    private int recorded(int i, int what) {
        Call call = pick(calls, i);
        int[] row = new int[9];
        row[0] = call.stand.number;
        row[1] = call.method;
        for (int p = 0; p < call.came.length; p++) {
            row[2 + p] = number(call.came[p]);
        }
        row[5] = call.how;
        row[6] = call.rule;
        row[7] = number(call.gave);
        row[8] = call.kind;
        return row[index(what, 9)];
    }

    private int expect(int stand, int method, int least, int most) {
        Expectation e = pattern(new Expectation(), stand, method);
        must(least >= 0 && most >= least, -1);
        e.least = least;
        e.most = most;
        return put(expectations, e, 40);
    }

    private int order(int first, int second) {
        pick(expectations, first);
        pick(expectations, second);
        must(first != second, -1);
        return put(orders, new int[] {first, second}, 40) + 1;
    }

    private int beside(int stand, boolean none) {
        Stand s = pick(stands, stand);
        boolean had = s.noneBeside;
        s.noneBeside = none;
        return had ? 1 : 0;
    }

    private List<Integer> meeting(Expectation e) {
        List<Integer> found = new ArrayList<>();
        for (int i = 0; i < calls.size(); i++) {
            if (meets(calls.get(i), e)) {
                found.add(i);
            }
        }
        return found;
    }

    private int verify() {
        List<int[]> found = new ArrayList<>();
        for (int i = 0; i < expectations.size(); i++) {
            Expectation e = expectations.get(i);
            int met = meeting(e).size();
            if (met < e.least) {
                found.add(new int[] {1, i, met});
            }
            if (met > e.most) {
                found.add(new int[] {2, i, met});
            }
        }
        for (int i = 0; i < orders.size(); i++) {
            List<Integer> first = meeting(expectations.get(orders.get(i)[0]));
            for (int second : meeting(expectations.get(orders.get(i)[1]))) {
                if (first.stream().anyMatch(f -> f > second)) {
                    found.add(new int[] {3, i, second});
                    break;
                }
            }
        }
        for (int i = 0; i < calls.size(); i++) {
            Call call = calls.get(i);
            boolean unmet = expectations.stream().noneMatch(e -> meets(call, e));
            if (unmet && call.stand.noneBeside) {
                found.add(new int[] {4, i, 0});
            }
            if (call.how == 2) {
                found.add(new int[] {5, i, 0});
            }
            if (unmet && call.how == 3) {
                found.add(new int[] {6, i, 0});
            }
        }
        wrongs = found.subList(0, Math.min(60, found.size()));
        return wrongs.size();
    }

    private static void within(int value, int from, int to) {
        must(from <= value && value <= to, -1);
    }

    private int cue(int kind, int a, int b, int c) {
        switch (kind) {
            case 0: case 9: within(a, 0, 7); break;
            case 1: within(a, 0, 7); within(b, 0, 7); break;
            case 2: within(a, 0, 3); within(b, -1, 23); break;
            case 3: within(a, 0, 3); within(b, 0, 7); break;
            case 4: within(a, 0, 60); break;
            case 5: within(a, 0, 7); within(b, 0, 7); within(c, 0, 60); break;
            case 6: within(a, 1, 59); within(b, 0, 60); break;
            case 7: within(a, 0, 11); break;
            case 8: within(a, 0, 3); within(b, 0, 3); within(c, 0, 7); break;
            default: throw new Refused(-1);
        }
        return put(cues, new int[] {kind, a, b, c}, 60);
    }

    private int clear() {
        int size = cues.size();
        cues.clear();
        return size;
    }

    private int run(int n) {
        within(n, 1, 1000);
        must(cuesDone < 20000, -3);
        wholes = new int[8];
        held = new Stand[4];
        ArrayDeque<Try> tries = new ArrayDeque<>();
        int at = 0;
        int left = n;
        while (at < cues.size()) {
            if (left == 0) {
                return -4;
            }
            left--;
            cuesDone++;
            try {
                at = step(at, cues.get(at), tries);
            } catch (Failure failure) {
                if (tries.isEmpty()) {
                    return failure.kind + 1;
                }
                wholes[6] = failure.kind;
                at = tries.pop().target;
            }
            int now = at;
            tries.removeIf(t -> now < t.first || now > t.last);
        }
        return 0;
    }

    private int step(int at, int[] cue, ArrayDeque<Try> tries) throws Failure {
        int a = cue[1];
        int b = cue[2];
        int c = cue[3];
        switch (cue[0]) {
            case 0: wholes[a] = b; break;
            case 1: wholes[a] = wholes[a] + wholes[b]; break;
            case 2: held[a] = b >= 0 && b < stands.size() ? stands.get(b) : null; break;
            case 3: callCue(held[a], b); break;
            case 4: return a;
            case 5: return wholes[a] < wholes[b] ? c : at + 1;
            case 6:
                if (tries.size() == 10) {
                    throw new Failure(11);
                }
                tries.push(new Try(at + 1, at + a, b));
                break;
            case 7: throw new Failure(a);
            case 8: wholes[c] = Objects.equals(held[a], held[b]) ? 1 : 0; break;
            default:
                if (told.size() < 100) {
                    told.add(wholes[a]);
                }
                break;
        }
        return at + 1;
    }

    private void callCue(Stand stand, int method) throws Failure {
        if (stand == null) {
            throw new Failure(9);
        }
        if (method >= stand.face.methods.size()) {
            throw new Failure(10);
        }
        Method m = stand.face.methods.get(method);
        Object[] came = new Object[m.isStand.length];
        ArrayDeque<Integer> wholePlaces = new ArrayDeque<>(List.of(0, 1, 2));
        ArrayDeque<Integer> standPlaces = new ArrayDeque<>(List.of(0, 1, 2));
        for (int i = 0; i < came.length; i++) {
            if (m.isStand[i]) {
                came[i] = held[standPlaces.poll()];
            } else {
                came[i] = wholes[wholePlaces.poll()];
            }
        }
        Call call = perform(stand, method, came);
        if (call.how == 1 || call.how == 2) {
            throw new Failure(call.kind);
        }
        if (m.gives == 1) {
            wholes[7] = (Integer) call.gave;
        }
        if (m.gives == 2) {
            held[3] = (Stand) call.gave;
        }
    }

    private int desk(int i) {
        return i < 8 ? wholes[i] : number(held[i - 8]);
    }

    private int count(int what) {
        int[] sizes = {
            faces.size(), stands.size(), rules.size(), calls.size(), lost, expectations.size(), orders.size(), cues.size(),
            cuesDone, told.size(),
        };
        if (what >= 0 && what < sizes.length) {
            return sizes[what];
        }
        within(what, 10, 21);
        return pick(faces, what - 10).methods.size();
    }

    private int forget() {
        int size = calls.size();
        calls.clear();
        lost = 0;
        for (Rule rule : rules) {
            rule.calls = 0;
            rule.caught.clear();
        }
        told.clear();
        Arrays.fill(levels, 0);
        return size;
    }
}
