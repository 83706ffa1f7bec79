import java.math.BigInteger;
import java.util.ArrayDeque;
import java.util.ArrayList;
import java.util.Deque;
import java.util.HashMap;
import java.util.List;
import java.util.Map;
import java.util.Set;
import java.util.TreeSet;

/**
 * The document again, as slow and as literal as can be: sets of ticks, all orders, all texts.
 * It shares no idea with PeriodSlots on purpose, so that a slip in one shows against the other.
 */
final class Naive {
    static final int UNKNOWN = -1, BAD = -2, LATE = -3, FULL = -4, NONE = -9;

    /** Everything that an act can change, and the periods. */
    static final class State {
        int r = 0;
        final List<Integer> period = new ArrayList<>();
        final List<Integer> offset = new ArrayList<>();
        final List<Integer> old = new ArrayList<>();
        final Set<List<Integer>> links = new java.util.HashSet<>();
        final Set<Integer> on = new TreeSet<>();

        State copy() {
            State s = new State();
            s.r = r;
            s.period.addAll(period);
            s.offset.addAll(offset);
            s.old.addAll(old);
            s.links.addAll(links);
            s.on.addAll(on);
            return s;
        }

        void addStation(int p, Integer o) {
            on.add(period.size());
            period.add(p);
            offset.add(o);
            old.add(null);
        }

        boolean linked(int i, int j) {
            return links.contains(List.of(Math.min(i, j), Math.max(i, j)));
        }

        void flip(int i, int j) {
            List<Integer> link = List.of(Math.min(i, j), Math.max(i, j));
            if (!links.remove(link)) {
                links.add(link);
            }
        }

        Set<Integer> neighbours(int v) {
            Set<Integer> found = new TreeSet<>();
            for (int u : on) {
                if (u != v && on.contains(v) && linked(u, v)) {
                    found.add(u);
                }
            }
            return found;
        }

        boolean near(int u, int v) {
            if (u == v) {
                return false;
            }
            Set<Integer> common = neighbours(u);
            common.retainAll(neighbours(v));
            return neighbours(u).contains(v) || !common.isEmpty();
        }

        Set<Integer> ticksWith(int v, Integer o) {
            Set<Integer> ticks = new TreeSet<>();
            for (int t = 0; t < 8; t++) {
                if (o != null && t % period.get(v) == o) {
                    ticks.add(t);
                }
            }
            return ticks;
        }

        Set<Integer> ticks(int v) {
            return ticksWith(v, offset.get(v));
        }

        Set<Integer> occupied(int v) {
            Set<Integer> ticks = ticks(v);
            ticks.addAll(ticksWith(v, old.get(v)));
            return ticks;
        }

        int priority(int v) {
            BigInteger base = BigInteger.valueOf(7 + 37L * v + 101L * r);
            return base.pow(3).mod(BigInteger.valueOf(1009)).intValue();
        }

        boolean above(int u, int v) {
            return priority(u) > priority(v) || priority(u) == priority(v) && u < v;
        }

        boolean unsettled(int v) {
            if (offset.get(v) == null) {
                return true;
            }
            for (int u : on) {
                if (near(u, v) && above(u, v) && meet(ticks(v), occupied(u))) {
                    return true;
                }
            }
            return false;
        }

        boolean free(int v, int o) {
            for (int u : on) {
                if (near(u, v) && meet(ticksWith(v, o), occupied(u))) {
                    return false;
                }
            }
            return true;
        }

        Integer lowestFree(int v) {
            for (int o = 0; o < period.get(v); o++) {
                if (free(v, o)) {
                    return o;
                }
            }
            return null;
        }

        /** Carries out a round; returns the stations that have another offset then. */
        Set<Integer> round() {
            State before = copy();
            Set<Integer> changed = new TreeSet<>();
            for (int v : on) {
                boolean moves = before.unsettled(v);
                for (int u : on) {
                    if (before.near(u, v) && before.above(u, v) && before.unsettled(u)) {
                        moves = false;
                    }
                }
                old.set(v, null);
                if (moves) {
                    Integer lowest = before.lowestFree(v);
                    offset.set(v, lowest);
                    old.set(v, lowest == null ? null : before.offset.get(v));
                }
                if (!java.util.Objects.equals(offset.get(v), before.offset.get(v))) {
                    changed.add(v);
                }
            }
            r++;
            return changed;
        }

        boolean quiet() {
            for (int v : on) {
                if (old.get(v) != null) {
                    return false;
                }
                if (unsettled(v) && !(offset.get(v) == null && lowestFree(v) == null)) {
                    return false;
                }
            }
            return true;
        }

        int gains;

        /** Carries out a run; returns its rounds, or NONE. */
        int run() {
            gains = 0;
            int rounds = 0;
            while (!quiet() && rounds < 40) {
                Set<Integer> changed = round();
                boolean gain = false;
                for (int v : changed) {
                    gain |= offset.get(v) != null;
                }
                gains += gain ? 1 : 0;
                rounds++;
            }
            return quiet() ? rounds : NONE;
        }

        void forgetOld() {
            for (int v = 0; v < old.size(); v++) {
                old.set(v, null);
            }
        }

        Set<Integer> net(int v) {
            Set<Integer> net = new TreeSet<>();
            Deque<Integer> todo = new ArrayDeque<>(List.of(v));
            while (!todo.isEmpty()) {
                int u = todo.pop();
                if (net.add(u)) {
                    todo.addAll(neighbours(u));
                }
            }
            return net;
        }

        void shift(Set<Integer> net, int d) {
            for (int v : net) {
                if (offset.get(v) != null) {
                    offset.set(v, (offset.get(v) + d) % period.get(v));
                }
            }
            forgetOld();
        }

        int conflicts() {
            int pairs = 0;
            for (int v : on) {
                for (int u : on) {
                    if (u < v && near(u, v) && meet(ticks(u), ticks(v))) {
                        pairs++;
                    }
                }
            }
            return pairs;
        }

        /** Returns who is heard, or null. */
        Integer heard(int v, int tick) {
            Set<Integer> senders = new TreeSet<>();
            for (int u : neighbours(v)) {
                if (ticks(u).contains(tick)) {
                    senders.add(u);
                }
            }
            if (ticks(v).contains(tick) || senders.size() != 1) {
                return null;
            }
            return senders.iterator().next();
        }
    }

    static boolean meet(Set<Integer> a, Set<Integer> b) {
        Set<Integer> both = new TreeSet<>(a);
        both.retainAll(b);
        return !both.isEmpty();
    }

    static int mask(Set<Integer> set) {
        int mask = 0;
        for (int k : set) {
            mask += 1 << k;
        }
        return mask;
    }

    static int orNone(Integer value) {
        return value == null ? NONE : value;
    }

    private final StringBuilder text = new StringBuilder();
    private State state = new State();
    private final List<State> acts = new ArrayList<>();
    private final State[] kept = new State[2];
    private final List<int[]> seen = new ArrayList<>();
    private long random = 0;

    private boolean no(int v) {
        return v < 0 || v >= state.period.size();
    }

    // ---- The field

    int write(int letter) {
        if (letter < 0 || letter > 255) {
            return BAD;
        }
        if (text.length() == 110) {
            return FULL;
        }
        text.append((char) letter);
        return text.length();
    }

    int wipe() {
        int held = text.length();
        text.setLength(0);
        return held;
    }

    /** Returns the field of a correct text, or null. */
    static State parsed(String text) {
        if (text.length() % 3 != 0) {
            return null;
        }
        State s = new State();
        for (int at = 0; at < text.length(); at += 3) {
            String part = text.substring(at, at + 3);
            int n = s.period.size();
            if (part.matches("S(1[ab-]|2[a-d-]|3[a-h-])") && n < 8) {
                int p = List.of(2, 4, 8).get(part.charAt(1) - '1');
                s.addStation(p, part.charAt(2) == '-' ? null : Integer.valueOf("abcdefgh".indexOf(part.charAt(2))));
            } else if (part.matches("L[0-7][0-7]")) {
                int i = Integer.parseInt(part.substring(1, 2));
                int j = Integer.parseInt(part.substring(2));
                if (i == j || i >= n || j >= n || s.linked(i, j)) {
                    return null;
                }
                s.flip(i, j);
            } else {
                return null;
            }
        }
        return s;
    }

    // A part has three bytes, so a beginning lacks at most two of them (or a whole part does no harm).
    private static boolean begins(String text) {
        if (parsed(text) != null) {
            return true;
        }
        String bytes = "SL01234567-abcdefgh";
        for (char one : bytes.toCharArray()) {
            if (parsed(text + one) != null) {
                return true;
            }
            for (char two : bytes.toCharArray()) {
                if (parsed(text + one + two) != null) {
                    return true;
                }
            }
        }
        return false;
    }

    int fault() {
        if (parsed(text.toString()) != null) {
            return NONE;
        }
        for (int k = 0; k < text.length(); k++) {
            if (!begins(text.substring(0, k + 1))) {
                return k;
            }
        }
        return text.length();
    }

    int field() {
        State made = parsed(text.toString());
        if (made == null) {
            return LATE;
        }
        state = made;
        acts.clear();
        kept[0] = null;
        kept[1] = null;
        return state.period.size();
    }

    int about(int what) {
        int[] answers = {
            state.period.size(), state.links.size(), state.conflicts(), state.r, 0, 0,
            state.quiet() ? 1 : 0, 0, acts.size(), seen.size(), text.length()};
        Set<Set<Integer>> nets = new java.util.HashSet<>();
        for (int v : state.on) {
            answers[4] += state.unsettled(v) ? 1 << v : 0;
            answers[5] += state.offset.get(v) != null ? 1 << v : 0;
            nets.add(state.net(v));
        }
        answers[7] = nets.size();
        return what < 0 || what > 10 ? BAD : answers[what];
    }

    int station(int v, int what) {
        if (no(v)) {
            return UNKNOWN;
        }
        if (what < 0 || what > 9) {
            return BAD;
        }
        Set<Integer> near = new TreeSet<>();
        for (int u : state.on) {
            if (state.near(u, v)) {
                near.add(u);
            }
        }
        Set<Integer> free = new TreeSet<>();
        for (int o = 0; o < state.period.get(v); o++) {
            if (state.free(v, o)) {
                free.add(o);
            }
        }
        int[] answers = {
            state.period.get(v), orNone(state.offset.get(v)), orNone(state.old.get(v)),
            mask(state.ticks(v)), mask(state.occupied(v)), mask(state.neighbours(v)), mask(near),
            state.priority(v), mask(free), mask(state.net(v))};
        return answers[what];
    }

    // ---- Acts

    private void act() {
        acts.add(state.copy());
        if (acts.size() > 14) {
            acts.remove(0);
        }
    }

    int round() {
        act();
        return state.round().size();
    }

    int turn(int i, int j) {
        if (no(i) || no(j)) {
            return UNKNOWN;
        }
        if (i == j) {
            return BAD;
        }
        act();
        state.flip(i, j);
        state.forgetOld();
        return state.linked(i, j) ? 1 : 0;
    }

    private int layError(State s, int v, int offset) {
        if (v < 0 || v >= s.period.size()) {
            return UNKNOWN;
        }
        return offset != NONE && (offset < 0 || offset > s.period.get(v) - 1) ? BAD : 0;
    }

    private void layIn(State s, int v, int offset) {
        s.offset.set(v, offset == NONE ? null : Integer.valueOf(offset));
        s.forgetOld();
    }

    int lay(int v, int offset) {
        if (layError(state, v, offset) != 0) {
            return layError(state, v, offset);
        }
        act();
        int previous = orNone(state.offset.get(v));
        layIn(state, v, offset);
        return previous;
    }

    int shift(int v, int d) {
        if (no(v)) {
            return UNKNOWN;
        }
        if (d < 0 || d > 7) {
            return BAD;
        }
        act();
        state.shift(state.net(v), d);
        return state.conflicts();
    }

    int join(int i, int j) {
        if (no(i) || no(j)) {
            return UNKNOWN;
        }
        if (i == j) {
            return BAD;
        }
        Set<Integer> one = state.net(i);
        Set<Integer> two = state.net(j);
        if (one.contains(j)) {
            return LATE;
        }
        act();
        Set<Integer> moved = one.size() < two.size() ? one : two;
        if (one.size() == two.size()) {
            List<Integer> all = new ArrayList<>(one);
            all.addAll(two);
            moved = one.contains(java.util.Collections.min(all)) ? two : one;
        }
        State best = null;
        int bestD = 0;
        for (int d = 7; d >= 0; d--) {
            State tried = state.copy();
            tried.shift(moved, d);
            tried.flip(i, j);
            if (best == null || tried.conflicts() <= best.conflicts()) {
                best = tried;
                bestD = d;
            }
        }
        state = best;
        return bestD;
    }

    int run() {
        act();
        int rounds = state.run();
        state.forgetOld();
        return rounds;
    }

    int undo() {
        if (acts.isEmpty()) {
            return LATE;
        }
        state = acts.remove(acts.size() - 1);
        return acts.size();
    }

    // ---- Queries

    int ahead(int what) {
        if (what < 0 || what > 3) {
            return BAD;
        }
        State end = state.copy();
        int rounds = end.run();
        if (rounds == NONE) {
            return NONE;
        }
        int has = 0;
        int other = 0;
        for (int v : state.on) {
            has += end.offset.get(v) != null ? 1 << v : 0;
            other += java.util.Objects.equals(end.offset.get(v), state.offset.get(v)) ? 0 : 1 << v;
        }
        return List.of(rounds, has, other, end.gains).get(what);
    }

    private boolean assign(State s, int v) {
        if (v == s.period.size()) {
            return true;
        }
        for (int o = 0; o < s.period.get(v); o++) {
            boolean fits = true;
            for (int u = 0; u < v; u++) {
                fits &= !s.near(u, v) || !meet(s.ticks(u), s.ticksWith(v, o));
            }
            s.offset.set(v, o);
            if (fits && assign(s, v + 1)) {
                return true;
            }
        }
        return false;
    }

    int plan(int v) {
        if (v != -1 && no(v)) {
            return UNKNOWN;
        }
        State s = state.copy();
        boolean found = assign(s, 0);
        if (v == -1) {
            return found ? 1 : 0;
        }
        return found ? s.offset.get(v) : NONE;
    }

    int shifted(int v, int d) {
        if (no(v)) {
            return UNKNOWN;
        }
        if (d < 0 || d > 7) {
            return BAD;
        }
        State s = state.copy();
        s.shift(s.net(v), d);
        return s.conflicts();
    }

    int awake(int v, int what) {
        if (no(v)) {
            return UNKNOWN;
        }
        if (what < 0 || what > 3) {
            return BAD;
        }
        Set<Integer> awake = state.ticks(v);
        for (int u : state.neighbours(v)) {
            awake.addAll(state.ticks(u));
        }
        int wakes = 0;
        int hears = 0;
        for (int t = 0; t < 8; t++) {
            int before = t == 0 ? 7 : t - 1;
            wakes += awake.contains(t) && !awake.contains(before) ? 1 : 0;
            hears += state.heard(v, t) != null ? 1 << t : 0;
        }
        return List.of(mask(awake), awake.size(), wakes, hears).get(what);
    }

    int arrives(int from, int to, int t) {
        if (no(from) || no(to)) {
            return UNKNOWN;
        }
        if (t < 0 || t > 7) {
            return BAD;
        }
        Set<Integer> has = new TreeSet<>(Set.of(from));
        int tick = t;
        int passed = 0;
        while (!has.contains(to)) {
            if (passed == 64) {
                return NONE;
            }
            Set<Integer> before = new TreeSet<>(has);
            for (int v : state.on) {
                Integer heard = state.heard(v, tick);
                if (heard != null && before.contains(heard)) {
                    has.add(v);
                }
            }
            tick = tick == 7 ? 0 : tick + 1;
            passed++;
        }
        return passed;
    }

    int judge(int n, long row) {
        if (n < 1 || n > 4 || row < 0 || Long.toString(row).length() > 4 * n) {
            return BAD;
        }
        String digits = "0".repeat(4 * n - Long.toString(row).length()) + row;
        State s = state.copy();
        for (int k = 0; k < n; k++) {
            if (!holds(s, digits.substring(4 * k, 4 * k + 4))) {
                return k;
            }
        }
        return NONE;
    }

    private boolean holds(State s, String q) {
        int a = q.charAt(1) - '0';
        int b = q.charAt(2) - '0';
        int n = s.period.size();
        if (q.matches("1..0")) {
            if (a >= n || b >= n || a == b) {
                return false;
            }
            s.flip(a, b);
            s.forgetOld();
            return true;
        }
        if (q.matches("2..0")) {
            int offset = b == 9 ? NONE : b;
            if (layError(s, a, offset) != 0) {
                return false;
            }
            layIn(s, a, offset);
            return true;
        }
        if (q.matches("3.[0-7]0")) {
            if (a >= n) {
                return false;
            }
            s.shift(s.net(a), b);
            return true;
        }
        if (q.matches("40..")) {
            return s.conflicts() == Integer.parseInt(q.substring(2));
        }
        if (q.equals("5000")) {
            s.round();
            return true;
        }
        if (q.matches("6.0[01]")) {
            return a < n && s.unsettled(a) == q.endsWith("1");
        }
        return q.matches("70..") && s.copy().run() == Integer.parseInt(q.substring(2));
    }

    // ---- Observations

    int see(int v, int tick, int was) {
        if (no(v)) {
            return UNKNOWN;
        }
        if (tick < 0 || tick > 7 || was < 0 || was > 2) {
            return BAD;
        }
        if (seen.size() == 6) {
            return FULL;
        }
        seen.add(new int[] {v, tick, was});
        return seen.size();
    }

    int unsee() {
        int held = seen.size();
        seen.clear();
        return held;
    }

    int which(int v) {
        if (no(v)) {
            return UNKNOWN;
        }
        int found = 0;
        for (int o = 0; o < state.period.get(v); o++) {
            State s = state.copy();
            s.offset.set(v, o);
            boolean agrees = true;
            for (int[] one : seen) {
                if (no(one[0])) {
                    continue;
                }
                int senders = 0;
                for (int u : s.neighbours(one[0])) {
                    senders += s.ticks(u).contains(one[1]) ? 1 : 0;
                }
                agrees &= one[2] == 0 && senders == 0 || one[2] == 1 && senders == 1 || one[2] == 2 && senders > 1;
            }
            found += agrees ? 1 << o : 0;
        }
        return found;
    }

    // ---- Shares and chance

    private final Map<Object, Integer> known = new HashMap<>();

    private int result(Set<Integer> on) {
        Object key = List.of(List.copyOf(state.period), Set.copyOf(state.links), Set.copyOf(on));
        Integer before = known.get(key);
        if (before != null) {
            return before;
        }
        State s = state.copy();
        s.r = 0;
        s.forgetOld();
        s.on.retainAll(on);
        for (int v = 0; v < s.period.size(); v++) {
            s.offset.set(v, null);
        }
        s.run();
        int count = 0;
        for (int v : s.on) {
            count += s.offset.get(v) != null ? 1 : 0;
        }
        known.put(key, count);
        return count;
    }

    private void orders(Set<Integer> on, int watched, long[] sumAndOrders) {
        if (on.contains(watched)) {
            Set<Integer> before = new TreeSet<>(on);
            before.remove(watched);
            long ways = 1;
            for (int k = 2; k <= state.period.size() - on.size(); k++) {
                ways *= k;
            }
            sumAndOrders[0] += ways * (result(on) - result(before));
            sumAndOrders[1] += ways;
            return;
        }
        for (int v = 0; v < state.period.size(); v++) {
            if (!on.contains(v)) {
                Set<Integer> more = new TreeSet<>(on);
                more.add(v);
                orders(more, watched, sumAndOrders);
            }
        }
    }

    int share(int v, boolean upper) {
        if (no(v)) {
            return UNKNOWN;
        }
        long[] sumAndOrders = new long[2];
        orders(new TreeSet<>(), v, sumAndOrders);
        return reduced(BigInteger.valueOf(sumAndOrders[0]), BigInteger.valueOf(sumAndOrders[1]), upper);
    }

    private static int reduced(BigInteger a, BigInteger b, boolean upper) {
        BigInteger common = a.gcd(b);
        return (upper ? a : b).divide(common).intValueExact();
    }

    int off(int x, boolean upper) {
        if (x < 0 || x > 10) {
            return BAD;
        }
        int n = state.period.size();
        BigInteger sum = BigInteger.ZERO;
        for (int mask = 0; mask < 1 << n; mask++) {
            Set<Integer> on = new TreeSet<>();
            BigInteger ways = BigInteger.ONE;
            for (int v = 0; v < n; v++) {
                boolean isOn = (mask & 1 << v) != 0;
                ways = ways.multiply(BigInteger.valueOf(isOn ? 10 - x : x));
                if (isOn) {
                    on.add(v);
                }
            }
            if (result(on) == on.size()) {
                sum = sum.add(ways);
            }
        }
        return reduced(sum, BigInteger.TEN.pow(n), upper);
    }

    long seed(long v) {
        long previous = random;
        random = v;
        return previous;
    }

    int drawn(int m) {
        if (m < 1 || m > 10) {
            return BAD;
        }
        int sum = 0;
        for (int k = 0; k < m; k++) {
            State s = state.copy();
            s.r = 0;
            s.forgetOld();
            for (int v = 0; v < s.period.size(); v++) {
                BigInteger x = BigInteger.valueOf(random).multiply(new BigInteger("6364136223846793005"));
                random = x.add(new BigInteger("1442695040888963407")).longValue();
                s.offset.set(v, (int) ((random >>> 33) % s.period.get(v)));
            }
            int rounds = s.run();
            sum += rounds == NONE ? 40 : rounds;
        }
        return sum;
    }

    // ---- Slots

    int keep(int slot) {
        if (slot != 0 && slot != 1) {
            return UNKNOWN;
        }
        kept[slot] = state.copy();
        return state.period.size();
    }

    int again(int slot) {
        if (slot != 0 && slot != 1) {
            return UNKNOWN;
        }
        if (kept[slot] == null) {
            return LATE;
        }
        state = kept[slot].copy();
        acts.clear();
        return state.period.size();
    }
}
