import java.util.Arrays;

/** Decentralized slot allocation in a radio mesh, as ../shared/DOC.md promises it. */
public final class PeriodSlots {
    public static final int UNKNOWN = -1, BAD = -2, LATE = -3, FULL = -4, NONE = -9;

    private static final int FINE = 0;
    private static final int MOST_STATIONS = 8;
    private static final int TICKS = 8;
    private static final int MOST_BYTES = 110;
    private static final int BYTES_OF_PART = 3;
    private static final int MOST_ROUNDS = 40;
    private static final int MOST_ACTS = 14;
    private static final int MOST_OBSERVATIONS = 6;
    private static final int MOST_STATEMENTS = 4;
    private static final int MOST_DRAWS = 10;
    private static final int SLOTS = 2;
    private static final int LONGEST_WAY = 64;

    private final Text text;
    private final Mesh mesh;
    // Predictions work on copies, so that no query can leave a trace in the mesh itself.
    private final Mesh draft;
    private final Mesh trial;
    private final Planner planner;
    private final Acts acts;
    private final Shelf slots;
    private final Observations observations;
    private final int[] statements;
    private long chance;

    public PeriodSlots() {
        text = new Text();
        mesh = new Mesh();
        draft = new Mesh();
        trial = new Mesh();
        planner = new Planner();
        acts = new Acts();
        slots = new Shelf(SLOTS);
        observations = new Observations();
        statements = new int[MOST_STATEMENTS];
        chance = 0;
    }

    // ---- The field

    public int write(int letter) {
        if (letter < 0 || letter > 255) {
            return BAD;
        }
        if (text.length >= MOST_BYTES) {
            return FULL;
        }
        text.append(letter);
        return text.length;
    }

    public int wipe() {
        int held = text.length;
        text.length = 0;
        return held;
    }

    public int fault() {
        return text.readInto(draft);
    }

    public int field() {
        if (text.readInto(draft) != NONE) {
            return LATE;
        }
        mesh.copyFrom(draft);
        acts.forget();
        slots.clear();
        return mesh.count;
    }

    public int about(int what) {
        switch (what) {
            case 0: return mesh.count;
            case 1: return mesh.linkCount();
            case 2: return mesh.conflicts();
            case 3: return mesh.roundNumber;
            case 4: return mesh.unsettledSet();
            case 5: return mesh.placedSet();
            case 6: return mesh.isQuiet() ? 1 : 0;
            case 7: return mesh.netCount();
            case 8: return acts.size;
            case 9: return observations.size;
            case 10: return text.length;
            default: return BAD;
        }
    }

    public int station(int station, int what) {
        if (!mesh.exists(station)) {
            return UNKNOWN;
        }
        switch (what) {
            case 0: return mesh.periods[station];
            case 1: return mesh.offsets[station];
            case 2: return mesh.olds[station];
            case 3: return mesh.ticks[station];
            case 4: return mesh.occupied[station];
            case 5: return mesh.links[station];
            case 6: return mesh.near[station];
            case 7: return mesh.priorities[station];
            case 8: return mesh.freeOffsets(station);
            case 9: return mesh.netOf(station);
            default: return BAD;
        }
    }

    // ---- Acts

    public int round() {
        acts.remember(mesh);
        return Integer.bitCount(mesh.advance());
    }

    public int turn(int i, int j) {
        int error = mesh.pairError(i, j);
        if (error != FINE) {
            return error;
        }
        acts.remember(mesh);
        mesh.flipLink(i, j);
        return has(mesh.links[i], j) ? 1 : 0;
    }

    public int lay(int station, int offset) {
        int error = mesh.offsetError(station, offset);
        if (error != FINE) {
            return error;
        }
        acts.remember(mesh);
        int previous = mesh.offsets[station];
        mesh.place(station, offset);
        return previous;
    }

    public int shift(int station, int d) {
        int error = mesh.distanceError(station, d);
        if (error != FINE) {
            return error;
        }
        acts.remember(mesh);
        mesh.moveAll(mesh.netOf(station), d);
        return mesh.conflicts();
    }

    public int join(int i, int j) {
        int error = mesh.pairError(i, j);
        if (error != FINE) {
            return error;
        }
        if (has(mesh.netOf(i), j)) {
            return LATE;
        }
        acts.remember(mesh);
        int moved = netToMove(mesh.netOf(i), mesh.netOf(j));
        mesh.flipLink(i, j);
        int d = bestDistance(moved);
        mesh.moveAll(moved, d);
        return d;
    }

    private static int netToMove(int one, int other) {
        int difference = Integer.bitCount(one) - Integer.bitCount(other);
        if (difference == 0) {
            difference = Integer.lowestOneBit(other) - Integer.lowestOneBit(one);
        }
        return difference < 0 ? one : other;
    }

    private int bestDistance(int moved) {
        int best = 0;
        int fewest = conflictsAfter(moved, 0);
        for (int d = 1; d < TICKS; d++) {
            int conflicts = conflictsAfter(moved, d);
            if (conflicts < fewest) {
                fewest = conflicts;
                best = d;
            }
        }
        return best;
    }

    private int conflictsAfter(int moved, int d) {
        trial.copyFrom(mesh);
        trial.moveAll(moved, d);
        return trial.conflicts();
    }

    public int run() {
        acts.remember(mesh);
        int rounds = mesh.settle();
        mesh.dropOlds();
        return rounds;
    }

    public int undo() {
        if (acts.size == 0) {
            return LATE;
        }
        acts.takeBack(mesh);
        return acts.size;
    }

    // ---- Queries

    public int ahead(int what) {
        if (what < 0 || what > 3) {
            return BAD;
        }
        trial.copyFrom(mesh);
        int rounds = trial.settle();
        if (rounds == NONE) {
            return NONE;
        }
        switch (what) {
            case 0: return rounds;
            case 1: return trial.placedSet();
            case 2: return trial.differenceTo(mesh);
            default: return trial.gainfulRounds;
        }
    }

    public int plan(int station) {
        if (station != -1 && !mesh.exists(station)) {
            return UNKNOWN;
        }
        boolean found = planner.succeeds(mesh);
        if (station == -1) {
            return found ? 1 : 0;
        }
        return found ? planner.offsets[station] : NONE;
    }

    public int shifted(int station, int d) {
        int error = mesh.distanceError(station, d);
        return error != FINE ? error : conflictsAfter(mesh.netOf(station), d);
    }

    public int awake(int station, int what) {
        if (!mesh.exists(station)) {
            return UNKNOWN;
        }
        int awake = mesh.awakeTicks(station);
        switch (what) {
            case 0: return awake;
            case 1: return Integer.bitCount(awake);
            case 2: return Integer.bitCount(awake & ~oneTickLater(awake));
            case 3: return mesh.hearingTicks(station);
            default: return BAD;
        }
    }

    private static int oneTickLater(int ticks) {
        return (ticks << 1 | ticks >> TICKS - 1) & (1 << TICKS) - 1;
    }

    public int arrives(int from, int to, int t) {
        if (!mesh.exists(from) || !mesh.exists(to)) {
            return UNKNOWN;
        }
        if (t < 0 || t >= TICKS) {
            return BAD;
        }
        int holders = 1 << from;
        for (int passed = 0; passed <= LONGEST_WAY; passed++) {
            if (has(holders, to)) {
                return passed;
            }
            holders |= mesh.hearersOf(holders, (t + passed) % TICKS);
        }
        return NONE;
    }

    public int judge(int n, long row) {
        if (n < 1 || n > MOST_STATEMENTS || row < 0) {
            return BAD;
        }
        long rest = row;
        for (int k = n - 1; k >= 0; k--) {
            statements[k] = (int) (rest % 10000);
            rest /= 10000;
        }
        if (rest != 0) {
            return BAD;
        }
        draft.copyFrom(mesh);
        for (int k = 0; k < n; k++) {
            if (!isTrue(statements[k])) {
                return k;
            }
        }
        return NONE;
    }

    private boolean isTrue(int statement) {
        int a = statement / 100 % 10;
        int b = statement / 10 % 10;
        int c = statement % 10;
        switch (statement / 1000) {
            case 1: return c == 0 && turnsDraft(a, b);
            case 2: return c == 0 && laysDraft(a, b == 9 ? NONE : b);
            case 3: return c == 0 && shiftsDraft(a, b);
            case 4: return a == 0 && draft.conflicts() == 10 * b + c;
            case 5: return a == 0 && b == 0 && c == 0 && advancesDraft();
            case 6: return b == 0 && c <= 1 && draft.exists(a) && has(draft.unsettledSet(), a) == (c == 1);
            case 7:
                trial.copyFrom(draft);
                return a == 0 && trial.settle() == 10 * b + c;
            default: return false;
        }
    }

    private boolean turnsDraft(int i, int j) {
        boolean fine = draft.pairError(i, j) == FINE;
        if (fine) {
            draft.flipLink(i, j);
        }
        return fine;
    }

    private boolean laysDraft(int station, int offset) {
        boolean fine = draft.offsetError(station, offset) == FINE;
        if (fine) {
            draft.place(station, offset);
        }
        return fine;
    }

    private boolean shiftsDraft(int station, int d) {
        boolean fine = draft.distanceError(station, d) == FINE;
        if (fine) {
            draft.moveAll(draft.netOf(station), d);
        }
        return fine;
    }

    private boolean advancesDraft() {
        draft.advance();
        return true;
    }

    // ---- Observations

    public int see(int station, int tick, int was) {
        if (!mesh.exists(station)) {
            return UNKNOWN;
        }
        if (tick < 0 || tick >= TICKS || was < 0 || was > 2) {
            return BAD;
        }
        if (observations.size >= MOST_OBSERVATIONS) {
            return FULL;
        }
        observations.add(station, tick, was);
        return observations.size;
    }

    public int unsee() {
        int held = observations.size;
        observations.size = 0;
        return held;
    }

    public int which(int station) {
        if (!mesh.exists(station)) {
            return UNKNOWN;
        }
        trial.copyFrom(mesh);
        int agreeing = 0;
        for (int offset = 0; offset < mesh.periods[station]; offset++) {
            trial.place(station, offset);
            if (observations.agreeWith(trial)) {
                agreeing |= 1 << offset;
            }
        }
        return agreeing;
    }

    // ---- Shares and chance

    public int share(int station, boolean upper) {
        if (!mesh.exists(station)) {
            return UNKNOWN;
        }
        int sum = 0;
        for (int on = 0; on < 1 << mesh.count; on++) {
            sum += ordersCounting(station, on) * placedIfOnly(on);
        }
        return partOfFraction(sum, factorial(mesh.count), upper);
    }

    // In so many orders the set is what is on right after the station came (they add its result),
    // or right before it comes (they take its result away, so they are negative).
    private int ordersCounting(int station, int on) {
        int size = Integer.bitCount(on);
        return has(on, station)
            ? factorial(size - 1) * factorial(mesh.count - size)
            : -factorial(size) * factorial(mesh.count - 1 - size);
    }

    public int off(int x, boolean upper) {
        if (x < 0 || x > 10) {
            return BAD;
        }
        int sum = 0;
        for (int on = 0; on < 1 << mesh.count; on++) {
            int size = Integer.bitCount(on);
            if (placedIfOnly(on) == size) {
                sum += power(10 - x, size) * power(x, mesh.count - size);
            }
        }
        return partOfFraction(sum, power(10, mesh.count), upper);
    }

    private int placedIfOnly(int on) {
        trial.copyFrom(mesh);
        trial.startWithOnly(on);
        trial.settle();
        return Integer.bitCount(trial.placedSet() & on);
    }

    public long seed(long v) {
        long previous = chance;
        chance = v;
        return previous;
    }

    public int drawn(int m) {
        if (m < 1 || m > MOST_DRAWS) {
            return BAD;
        }
        int sum = 0;
        for (int k = 0; k < m; k++) {
            drawOffsets();
            int rounds = trial.settle();
            sum += rounds == NONE ? MOST_ROUNDS : rounds;
        }
        return sum;
    }

    private void drawOffsets() {
        trial.copyFrom(mesh);
        trial.startWithOnly((1 << trial.count) - 1);
        for (int v = 0; v < trial.count; v++) {
            chance = chance * 6364136223846793005L + 1442695040888963407L;
            trial.place(v, trial.wrapped(v, (int) (chance >>> 33)));
        }
    }

    // ---- Slots

    public int keep(int slot) {
        if (slot < 0 || slot >= SLOTS) {
            return UNKNOWN;
        }
        slots.put(slot, mesh);
        return mesh.count;
    }

    public int again(int slot) {
        if (slot < 0 || slot >= SLOTS) {
            return UNKNOWN;
        }
        if (!slots.holds(slot)) {
            return LATE;
        }
        slots.giveBack(slot, mesh);
        acts.forget();
        return mesh.count;
    }

    // ---- Numbers and sets

    private static boolean has(int set, int k) {
        return (set >> k & 1) != 0;
    }

    private static int lowestOrNone(int set) {
        return set == 0 ? NONE : Integer.numberOfTrailingZeros(set);
    }

    private static int factorial(int k) {
        int product = 1;
        for (int factor = 2; factor <= k; factor++) {
            product *= factor;
        }
        return product;
    }

    private static int power(int base, int exponent) {
        int product = 1;
        for (int k = 0; k < exponent; k++) {
            product *= base;
        }
        return product;
    }

    private static int partOfFraction(int numerator, int denominator, boolean upper) {
        int common = commonDivisor(Math.abs(numerator), denominator);
        if (common < 1) {
            return 0;
        }
        return upper ? numerator / common : denominator / common;
    }

    // Euclid's steps halve the numbers at least every second time, so 64 are enough for any int.
    private static int commonDivisor(int a, int b) {
        int greater = a;
        int smaller = b;
        for (int k = 0; k < 64 && smaller != 0; k++) {
            int remainder = greater % smaller;
            greater = smaller;
            smaller = remainder;
        }
        return greater;
    }

    /** The text buffer, and the reading of its parts. */
    private static final class Text {
        final int[] bytes = new int[MOST_BYTES];
        int length;

        void append(int letter) {
            if (length < bytes.length) {
                bytes[length] = letter;
                length++;
            }
        }

        /** Returns the error position, or NONE if the mesh is what the text describes. */
        int readInto(Mesh mesh) {
            mesh.clear();
            for (int at = 0; at < length; at += BYTES_OF_PART) {
                int letter = byteAt(at);
                int right = 0;
                if (letter == 'S' && mesh.count < MOST_STATIONS) {
                    right = readStation(at, mesh);
                } else if (letter == 'L' && mesh.lacksLink()) {
                    right = readLink(at, mesh);
                }
                if (right < BYTES_OF_PART) {
                    return at + right;
                }
            }
            return NONE;
        }

        // Both readers return how many bytes of the part are right.
        private int readStation(int at, Mesh mesh) {
            int size = byteAt(at + 1) - '0';
            if (size < 1 || size > 3) {
                return 1;
            }
            int period = 1 << size;
            int letter = byteAt(at + 2);
            if (letter != '-' && (letter < 'a' || letter >= 'a' + period)) {
                return 2;
            }
            mesh.add(period, letter == '-' ? NONE : letter - 'a');
            return BYTES_OF_PART;
        }

        private int readLink(int at, Mesh mesh) {
            int i = byteAt(at + 1) - '0';
            if (!mesh.exists(i) || mesh.isLinkedWithAll(i)) {
                return 1;
            }
            int j = byteAt(at + 2) - '0';
            if (!mesh.exists(j) || i == j || has(mesh.links[i], j)) {
                return 2;
            }
            mesh.flipLink(i, j);
            return BYTES_OF_PART;
        }

        // Behind the end stands no byte, and -1 is right nowhere in a part.
        private int byteAt(int at) {
            return at >= 0 && at < length && at < bytes.length ? bytes[at] : -1;
        }
    }

    /** Stations, links, offsets and the round number, and how they negotiate. */
    private static final class Mesh {
        int count;
        int roundNumber;
        int gainfulRounds;
        final int[] periods = new int[MOST_STATIONS];
        final int[] links = new int[MOST_STATIONS];
        final int[] offsets = new int[MOST_STATIONS];
        final int[] olds = new int[MOST_STATIONS];
        // The other rows follow from those: rounds need them too often to find them anew each time.
        // From the periods: the ticks with offset 0.
        final int[] patterns = new int[MOST_STATIONS];
        // From the links and the round number; relate() and rank() keep them true.
        final int[] near = new int[MOST_STATIONS];
        final int[] priorities = new int[MOST_STATIONS];
        final int[] nearAbove = new int[MOST_STATIONS];
        // From the offsets and the old offsets; markTicks() keeps them true.
        final int[] ticks = new int[MOST_STATIONS];
        final int[] occupied = new int[MOST_STATIONS];
        private final int[] next = new int[MOST_STATIONS];

        // -- what it is made of

        void clear() {
            count = 0;
            roundNumber = 0;
        }

        void copyFrom(Mesh other) {
            count = other.count;
            roundNumber = other.roundNumber;
            copyRow(other.periods, periods);
            copyRow(other.links, links);
            copyRow(other.offsets, offsets);
            copyRow(other.olds, olds);
            copyRow(other.patterns, patterns);
            copyRow(other.near, near);
            copyRow(other.priorities, priorities);
            copyRow(other.nearAbove, nearAbove);
            copyRow(other.ticks, ticks);
            copyRow(other.occupied, occupied);
        }

        private static void copyRow(int[] source, int[] target) {
            System.arraycopy(source, 0, target, 0, MOST_STATIONS);
        }

        void add(int period, int offset) {
            if (count >= MOST_STATIONS) {
                return;
            }
            periods[count] = period;
            patterns[count] = 0;
            for (int tick = 0; tick < TICKS; tick++) {
                if (wrapped(count, tick) == 0) {
                    patterns[count] |= 1 << tick;
                }
            }
            links[count] = 0;
            offsets[count] = offset;
            count++;
            dropOlds();
            relate();
        }

        boolean exists(int v) {
            return v >= 0 && v < count;
        }

        int pairError(int i, int j) {
            if (!exists(i) || !exists(j)) {
                return UNKNOWN;
            }
            return i == j ? BAD : FINE;
        }

        int offsetError(int v, int offset) {
            if (!exists(v)) {
                return UNKNOWN;
            }
            return offset == NONE || offset >= 0 && offset < periods[v] ? FINE : BAD;
        }

        int distanceError(int v, int d) {
            if (!exists(v)) {
                return UNKNOWN;
            }
            return d >= 0 && d < TICKS ? FINE : BAD;
        }

        // -- links and nets

        void flipLink(int i, int j) {
            links[i] ^= 1 << j;
            links[j] ^= 1 << i;
            dropOlds();
            relate();
        }

        int linkCount() {
            int ends = 0;
            for (int v = 0; v < count; v++) {
                ends += Integer.bitCount(links[v]);
            }
            return ends / 2;
        }

        boolean lacksLink() {
            return linkCount() < count * (count - 1) / 2;
        }

        boolean isLinkedWithAll(int v) {
            return Integer.bitCount(links[v]) == count - 1;
        }

        int netOf(int v) {
            int net = 1 << v;
            for (int step = 1; step < count; step++) {
                net |= neighboursOf(net);
            }
            return net;
        }

        private int neighboursOf(int set) {
            int found = 0;
            for (int v = 0; v < count; v++) {
                if (has(set, v)) {
                    found |= links[v];
                }
            }
            return found;
        }

        boolean isLowestOfNet(int v) {
            return Integer.lowestOneBit(netOf(v)) == 1 << v;
        }

        int netCount() {
            int nets = 0;
            for (int v = 0; v < count; v++) {
                if (isLowestOfNet(v)) {
                    nets++;
                }
            }
            return nets;
        }

        // -- who is near and above

        void relate() {
            for (int v = 0; v < count; v++) {
                near[v] = (links[v] | neighboursOf(links[v])) & ~(1 << v);
            }
            rank();
        }

        private void rank() {
            for (int v = 0; v < count; v++) {
                priorities[v] = priority(v);
            }
            for (int v = 0; v < count; v++) {
                nearAbove[v] = near[v] & stationsAbove(v);
            }
        }

        // The remainder is taken before the power, too, because the power alone would outgrow a long.
        private int priority(int v) {
            long base = (7 + 37L * v + 101L * roundNumber) % 1009;
            return (int) (base * base * base % 1009);
        }

        private int stationsAbove(int v) {
            int above = 0;
            for (int u = 0; u < count; u++) {
                boolean tie = priorities[u] == priorities[v];
                if (priorities[u] > priorities[v] || tie && u < v) {
                    above |= 1 << u;
                }
            }
            return above;
        }

        // -- offsets and ticks

        int wrapped(int v, int offset) {
            return offset & periods[v] - 1;
        }

        int ticksAt(int v, int offset) {
            return offset == NONE ? 0 : patterns[v] << offset;
        }

        void markTicks() {
            for (int v = 0; v < count; v++) {
                ticks[v] = ticksAt(v, offsets[v]);
                occupied[v] = ticks[v] | ticksAt(v, olds[v]);
            }
        }

        private int occupiedByAny(int set) {
            int taken = 0;
            for (int v = 0; v < count; v++) {
                if (has(set, v)) {
                    taken |= occupied[v];
                }
            }
            return taken;
        }

        int offsetsOutside(int v, int taken) {
            int found = 0;
            for (int offset = 0; offset < periods[v]; offset++) {
                if ((patterns[v] << offset & taken) == 0) {
                    found |= 1 << offset;
                }
            }
            return found;
        }

        int freeOffsets(int v) {
            return offsetsOutside(v, occupiedByAny(near[v]));
        }

        int placedSet() {
            int placed = 0;
            for (int v = 0; v < count; v++) {
                if (offsets[v] != NONE) {
                    placed |= 1 << v;
                }
            }
            return placed;
        }

        int differenceTo(Mesh other) {
            int different = 0;
            for (int v = 0; v < count; v++) {
                if (offsets[v] != other.offsets[v]) {
                    different |= 1 << v;
                }
            }
            return different;
        }

        int conflicts() {
            int pairs = 0;
            for (int v = 0; v < count; v++) {
                for (int u = 0; u < v; u++) {
                    if (has(near[v], u) && (ticks[u] & ticks[v]) != 0) {
                        pairs++;
                    }
                }
            }
            return pairs;
        }

        void place(int v, int offset) {
            offsets[v] = offset;
            dropOlds();
        }

        void moveAll(int set, int d) {
            for (int v = 0; v < count; v++) {
                if (has(set, v) && offsets[v] != NONE) {
                    offsets[v] = wrapped(v, offsets[v] + d);
                }
            }
            dropOlds();
        }

        void dropOlds() {
            Arrays.fill(olds, NONE);
            markTicks();
        }

        // Round number 0, no offsets. A station that is off gets an offset and no link, though:
        // so it is settled and near to nobody, and the others negotiate as if it were not there.
        void startWithOnly(int on) {
            for (int v = 0; v < count; v++) {
                links[v] = has(on, v) ? links[v] & on : 0;
                offsets[v] = has(on, v) ? NONE : 0;
            }
            dropOlds();
            roundNumber = 0;
            relate();
        }

        // -- rounds

        int unsettledSet() {
            int unsettled = 0;
            for (int v = 0; v < count; v++) {
                if (offsets[v] == NONE || (ticks[v] & occupiedByAny(nearAbove[v])) != 0) {
                    unsettled |= 1 << v;
                }
            }
            return unsettled;
        }

        boolean isQuiet() {
            int unsettled = unsettledSet();
            for (int v = 0; v < count; v++) {
                boolean stuck = offsets[v] == NONE && freeOffsets(v) == 0;
                if (olds[v] != NONE || has(unsettled, v) && !stuck) {
                    return false;
                }
            }
            return true;
        }

        /** Carries out a round; returns the set of stations that have another offset then. */
        int advance() {
            int unsettled = unsettledSet();
            int moving = 0;
            for (int v = 0; v < count; v++) {
                if (has(unsettled, v) && (nearAbove[v] & unsettled) == 0) {
                    moving |= 1 << v;
                    next[v] = lowestOrNone(freeOffsets(v));
                }
            }
            int changed = moveToNext(moving);
            roundNumber++;
            rank();
            return changed;
        }

        private int moveToNext(int moving) {
            int changed = 0;
            for (int v = 0; v < count; v++) {
                olds[v] = NONE;
                if (has(moving, v) && next[v] != offsets[v]) {
                    olds[v] = next[v] == NONE ? NONE : offsets[v];
                    offsets[v] = next[v];
                    changed |= 1 << v;
                }
            }
            markTicks();
            return changed;
        }

        /** Carries out a run; returns how many rounds it has, or NONE if it does not become quiet. */
        int settle() {
            gainfulRounds = 0;
            for (int rounds = 0; rounds < MOST_ROUNDS; rounds++) {
                if (isQuiet()) {
                    return rounds;
                }
                if ((advance() & placedSet()) != 0) {
                    gainfulRounds++;
                }
            }
            return isQuiet() ? MOST_ROUNDS : NONE;
        }

        // -- reception

        int neighboursAt(int v, int tick) {
            int found = 0;
            for (int u = 0; u < count; u++) {
                if (has(links[v], u) && has(ticks[u], tick)) {
                    found |= 1 << u;
                }
            }
            return found;
        }

        /** Returns the set of the one neighbour that the station hears at the tick, or the empty set. */
        private int heardBy(int v, int tick) {
            int sending = neighboursAt(v, tick);
            return has(ticks[v], tick) || Integer.bitCount(sending) != 1 ? 0 : sending;
        }

        int hearersOf(int senders, int tick) {
            int hearers = 0;
            for (int v = 0; v < count; v++) {
                if ((heardBy(v, tick) & senders) != 0) {
                    hearers |= 1 << v;
                }
            }
            return hearers;
        }

        int hearingTicks(int v) {
            int hearing = 0;
            for (int tick = 0; tick < TICKS; tick++) {
                if (heardBy(v, tick) != 0) {
                    hearing |= 1 << tick;
                }
            }
            return hearing;
        }

        int awakeTicks(int v) {
            int awake = ticks[v];
            for (int u = 0; u < count; u++) {
                if (has(links[v], u)) {
                    awake |= ticks[u];
                }
            }
            return awake;
        }
    }

    /** The search for the lexicographically smallest offsets without conflicts. */
    private static final class Planner {
        final int[] offsets = new int[MOST_STATIONS];

        // No choice in one net matters in another: apart, they cost a sum of searches, not a product.
        boolean succeeds(Mesh mesh) {
            Arrays.fill(offsets, NONE);
            for (int v = 0; v < mesh.count; v++) {
                if (mesh.isLowestOfNet(v) && !assigns(offsets, mesh, mesh.netOf(v), v)) {
                    return false;
                }
            }
            return true;
        }

        private static boolean assigns(int[] chosen, Mesh mesh, int net, int v) {
            if (!mesh.exists(v)) {
                return true;
            }
            if (!has(net, v)) {
                return assigns(chosen, mesh, net, v + 1);
            }
            int open = openOffsets(chosen, mesh, v);
            for (int offset = 0; offset < mesh.periods[v]; offset++) {
                chosen[v] = offset;
                if (has(open, offset) && leavesRoom(chosen, mesh, v) && assigns(chosen, mesh, net, v + 1)) {
                    return true;
                }
            }
            // Left standing, the last try would close offsets to the stations before this one.
            chosen[v] = NONE;
            return false;
        }

        private static int openOffsets(int[] chosen, Mesh mesh, int v) {
            int taken = 0;
            for (int u = 0; u < mesh.count; u++) {
                if (has(mesh.near[v], u)) {
                    taken |= mesh.ticksAt(u, chosen[u]);
                }
            }
            return mesh.offsetsOutside(v, taken);
        }

        // Looking ahead ends most dead branches some stations earlier.
        private static boolean leavesRoom(int[] chosen, Mesh mesh, int v) {
            for (int u = v + 1; u < mesh.count; u++) {
                if (has(mesh.near[v], u) && openOffsets(chosen, mesh, u) == 0) {
                    return false;
                }
            }
            return true;
        }
    }

    /** Rows that each hold the links, offsets, old offsets and round number of a mesh. */
    private static final class Shelf {
        private static final int WIDTH = 3 * MOST_STATIONS + 1;
        private final int rows;
        private final int[] cells;
        private int filled;

        Shelf(int rows) {
            this.rows = Math.max(0, rows);
            cells = new int[this.rows * WIDTH];
        }

        void clear() {
            filled = 0;
        }

        boolean holds(int row) {
            return row >= 0 && row < rows && has(filled, row);
        }

        void put(int row, Mesh mesh) {
            if (row < 0 || row >= rows) {
                return;
            }
            int at = row * WIDTH;
            System.arraycopy(mesh.links, 0, cells, at, MOST_STATIONS);
            System.arraycopy(mesh.offsets, 0, cells, at + MOST_STATIONS, MOST_STATIONS);
            System.arraycopy(mesh.olds, 0, cells, at + 2 * MOST_STATIONS, MOST_STATIONS);
            cells[at + 3 * MOST_STATIONS] = mesh.roundNumber;
            filled |= 1 << row;
        }

        void giveBack(int row, Mesh mesh) {
            if (!holds(row)) {
                return;
            }
            int at = row * WIDTH;
            System.arraycopy(cells, at, mesh.links, 0, MOST_STATIONS);
            System.arraycopy(cells, at + MOST_STATIONS, mesh.offsets, 0, MOST_STATIONS);
            System.arraycopy(cells, at + 2 * MOST_STATIONS, mesh.olds, 0, MOST_STATIONS);
            mesh.roundNumber = cells[at + 3 * MOST_STATIONS];
            mesh.relate();
            mesh.markTicks();
        }
    }

    /** The states before the last acts, in a ring, so that the oldest makes room for the newest. */
    private static final class Acts {
        private final Shelf before = new Shelf(MOST_ACTS);
        private int newest;
        int size;

        void remember(Mesh mesh) {
            newest = (newest + 1) % MOST_ACTS;
            before.put(newest, mesh);
            size = Math.min(size + 1, MOST_ACTS);
        }

        void takeBack(Mesh mesh) {
            before.giveBack(newest, mesh);
            newest = (newest + MOST_ACTS - 1) % MOST_ACTS;
            size = Math.max(0, size - 1);
        }

        void forget() {
            size = 0;
        }
    }

    /** What has been seen of stations and ticks. */
    private static final class Observations {
        private final int[] stations = new int[MOST_OBSERVATIONS];
        private final int[] ticks = new int[MOST_OBSERVATIONS];
        private final int[] sights = new int[MOST_OBSERVATIONS];
        int size;

        void add(int station, int tick, int was) {
            if (size < MOST_OBSERVATIONS) {
                stations[size] = station;
                ticks[size] = tick;
                sights[size] = was;
                size++;
            }
        }

        boolean agreeWith(Mesh mesh) {
            for (int k = 0; k < size && k < MOST_OBSERVATIONS; k++) {
                if (mesh.exists(stations[k]) && sight(mesh, stations[k], ticks[k]) != sights[k]) {
                    return false;
                }
            }
            return true;
        }

        private static int sight(Mesh mesh, int station, int tick) {
            return Math.min(2, Integer.bitCount(mesh.neighboursAt(station, tick)));
        }
    }
}
