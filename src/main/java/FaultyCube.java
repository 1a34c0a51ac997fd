import java.util.Arrays;

/** A simulator of fault-tolerant routing in a hypercube by safety levels. */
public final class FaultyCube {
    public static final int NONE = -1;
    public static final int OPTIMAL = 0, DETOUR = 1, REFUSED = 2;
    public static final int MOVING = 0, DELIVERED = 1, LOST = 2;

    private static final int FIRST_DIMENSION = 4;
    private static final int MAX_DIMENSION = 6;
    private static final int MAX_NODES = 64;
    private static final int MAX_MESSAGES = 24;
    private static final int MAX_STEPS = 20;
    private static final int MAX_DETOURS = 2;
    private static final int MAX_SAVED = 4;
    private static final long KILL_ALL_NODES = 0xFFFFFFFFL;
    private static final long DIGEST_START = 12805L;

    /** At k: the nodes that have the bit 0 in dimension k. */
    private static final long[] LOW_NODES = {
        0x5555555555555555L, 0x3333333333333333L, 0x0F0F0F0F0F0F0F0FL,
        0x00FF00FF00FF00FFL, 0x0000FFFF0000FFFFL, 0x00000000FFFFFFFFL
    };

    private final Situation now;
    private final UndoStack past;
    private final Safety safety;
    private final Broadcast broadcast;
    private final PathPacking packing;
    private final Traffic traffic;

    public FaultyCube() {
        now = new Situation();
        past = new UndoStack();
        safety = new Safety();
        broadcast = new Broadcast();
        packing = new PathPacking();
        traffic = new Traffic();
        now.restart(FIRST_DIMENSION);
        refreshSafety();
    }

    // ---- cube

    public int setDimension(int d) throws IllegalArgumentException {
        if (d < 1 || d > MAX_DIMENSION) {
            throw new IllegalArgumentException("the dimension is not 1 to 6");
        }
        int previous = now.dimension;
        past.save(now);
        now.restart(d);
        refreshSafety();
        return previous;
    }

    public int kill(int node) throws IllegalArgumentException, IllegalStateException {
        requireNode(node);
        requireAlive(node);
        past.save(now);
        int lost = now.letDie(1L << node);
        refreshSafety();
        return lost;
    }

    public int revive(int node) throws IllegalArgumentException, IllegalStateException {
        requireNode(node);
        if (contains(now.alive, node)) {
            throw new IllegalStateException("the node is alive already");
        }
        past.save(now);
        now.alive |= 1L << node;
        refreshSafety();
        return nodeCount() - Long.bitCount(now.alive);
    }

    public int killAll(int mask) {
        long dying = mask & KILL_ALL_NODES & now.alive;
        past.save(now);
        now.letDie(dying);
        refreshSafety();
        return Long.bitCount(dying);
    }

    public boolean isAlive(int node) throws IllegalArgumentException {
        requireNode(node);
        return contains(now.alive, node);
    }

    public int distance(int from, int to) throws IllegalArgumentException {
        requireNode(from);
        requireNode(to);
        return Integer.bitCount(from ^ to);
    }

    public int shortest(int from, int to)
            throws IllegalArgumentException, IllegalStateException {
        requireLivingPair(from, to);
        long reached = 1L << from;
        for (int length = 0; length < MAX_NODES; length++) {
            if (contains(reached, to)) {
                return length;
            }
            reached |= neighboursOfSet(reached, now.dimension) & now.alive;
        }
        return NONE;
    }

    // ---- levels

    public int level(int node) throws IllegalArgumentException {
        requireNode(node);
        return safety.levelOf(node);
    }

    public int rounds() {
        return safety.changingRounds;
    }

    public int safeNodes() {
        int safe = 0;
        for (int node = 0; node < nodeCount(); node++) {
            if (safety.levelOf(node) == now.dimension) {
                safe++;
            }
        }
        return safe;
    }

    public int vectorBit(int node, int k) throws IllegalArgumentException {
        requireNode(node);
        if (k < 1 || k > now.dimension) {
            throw new IllegalArgumentException("the safety vector has no such bit");
        }
        return safety.bitOf(node, k);
    }

    // ---- routes

    public int decide(int from, int to)
            throws IllegalArgumentException, IllegalStateException {
        requireLivingPair(from, to);
        return decision(from, to);
    }

    public int routeLength(int from, int to)
            throws IllegalArgumentException, IllegalStateException {
        requireLivingPair(from, to);
        return lengthOfRoute(from, to);
    }

    public int routeNode(int from, int to, int index)
            throws IllegalArgumentException, IllegalStateException {
        requireNode(from);
        requireNode(to);
        if (index < 0) {
            throw new IllegalArgumentException("the index is negative");
        }
        requireAlive(from);
        requireAlive(to);
        // A refused route has the length NONE, which is below every index.
        if (index > lengthOfRoute(from, to)) {
            return NONE;
        }
        return nodeOfRoute(from, to, index);
    }

    public int reach(int from, int decision)
            throws IllegalArgumentException, IllegalStateException {
        requireNode(from);
        if (decision < OPTIMAL || decision > REFUSED) {
            throw new IllegalArgumentException("there is no such decision");
        }
        requireAlive(from);
        int reached = 0;
        for (int to = 0; to < nodeCount(); to++) {
            if (to != from && contains(now.alive, to) && decision(from, to) == decision) {
                reached++;
            }
        }
        return reached;
    }

    // ---- broadcast, subcubes, paths

    public int broadcastTime(int from, int to)
            throws IllegalArgumentException, IllegalStateException {
        requireNode(from);
        requireNode(to);
        requireAlive(from);
        broadcast.run(from, now.alive, safety);
        return broadcast.timeOf(to);
    }

    public int broadcastSize(int from)
            throws IllegalArgumentException, IllegalStateException {
        requireNode(from);
        requireAlive(from);
        broadcast.run(from, now.alive, safety);
        return broadcast.receivers;
    }

    public int freeSubcubes(int k) throws IllegalArgumentException {
        if (k < 0 || k > now.dimension) {
            throw new IllegalArgumentException("there are no subcubes of this dimension");
        }
        int free = 0;
        for (int mask = 0; mask < nodeCount(); mask++) {
            if (Integer.bitCount(mask) == k) {
                free += Long.bitCount(freeBases(mask));
            }
        }
        return free;
    }

    public int largestSubcube() {
        int largest = NONE;
        int largestDimension = -1;
        for (int mask = 0; mask < nodeCount(); mask++) {
            long bases = freeBases(mask);
            if (bases != 0L && Integer.bitCount(mask) > largestDimension) {
                largestDimension = Integer.bitCount(mask);
                largest = 64 * mask + leastNode(bases);
            }
        }
        return largest;
    }

    public int disjointPaths(int from, int to)
            throws IllegalArgumentException, IllegalStateException {
        requireNode(from);
        requireNode(to);
        if (from == to) {
            throw new IllegalArgumentException("the two nodes are the same");
        }
        requireAlive(from);
        requireAlive(to);
        return packing.largest(from, to, now.dimension, now.alive);
    }

    // ---- messages

    public int send(int from, int to)
            throws IllegalArgumentException, IllegalStateException {
        requireLivingPair(from, to);
        if (now.messages >= MAX_MESSAGES) {
            throw new IllegalStateException("there are 24 messages already");
        }
        past.save(now);
        return now.addMessage(from, to);
    }

    public int step(int n) throws IllegalArgumentException {
        if (n < 1 || n > MAX_STEPS) {
            throw new IllegalArgumentException("the number of steps is not 1 to 20");
        }
        past.save(now);
        int made = 0;
        for (int i = 0; i < n; i++) {
            made += traffic.oneStep(now, safety);
        }
        return made;
    }

    public int state(int message) throws IllegalArgumentException {
        requireMessage(message);
        return read(now.states, message);
    }

    public int position(int message) throws IllegalArgumentException {
        requireMessage(message);
        return read(now.positions, message);
    }

    public int moves(int message) throws IllegalArgumentException {
        requireMessage(message);
        return read(now.moveCounts, message);
    }

    public int count(int state) throws IllegalArgumentException {
        if (state < MOVING || state > LOST) {
            throw new IllegalArgumentException("there is no such state");
        }
        int found = 0;
        for (int message = 0; message < now.messages; message++) {
            if (read(now.states, message) == state) {
                found++;
            }
        }
        return found;
    }

    // ---- undo and checksum

    public int undo() throws IllegalStateException {
        if (past.size == 0) {
            throw new IllegalStateException("there is no saved state");
        }
        past.restoreInto(now);
        refreshSafety();
        return past.size;
    }

    public long digest() {
        long h = DIGEST_START;
        h = 31L * h + past.size;
        h = 31L * h + now.dimension;
        h = 31L * h + now.steps;
        h = 31L * h + rounds();
        h = 31L * h + safeNodes();
        h = 31L * h + largestSubcube();
        return hashMessages(hashNodes(h));
    }

    private long hashNodes(long start) {
        long h = start;
        for (int node = 0; node < nodeCount(); node++) {
            h = 31L * h + safety.levelOf(node);
            for (int k = 1; k <= now.dimension; k++) {
                h = 31L * h + safety.bitOf(node, k);
            }
        }
        return h;
    }

    private long hashMessages(long start) {
        long h = 31L * start + now.messages;
        for (int message = 0; message < now.messages; message++) {
            h = 31L * h + read(now.states, message);
            h = 31L * h + read(now.positions, message);
            h = 31L * h + read(now.goals, message);
            h = 31L * h + read(now.moveCounts, message);
            h = 31L * h + read(now.detourCounts, message);
        }
        return h;
    }

    // ---- what the methods of the face share

    private void refreshSafety() {
        safety.find(now.dimension, now.alive);
    }

    private int nodeCount() {
        return 1 << now.dimension;
    }

    private void requireNode(int node) {
        if (node < 0 || node >= nodeCount()) {
            throw new IllegalArgumentException("there is no such node");
        }
    }

    private void requireAlive(int node) {
        if (!contains(now.alive, node)) {
            throw new IllegalStateException("the node is dead");
        }
    }

    /** Both ranges first: a number out of range outweighs a dead node. */
    private void requireLivingPair(int from, int to) {
        requireNode(from);
        requireNode(to);
        requireAlive(from);
        requireAlive(to);
    }

    private void requireMessage(int message) {
        if (message < 0 || message >= now.messages) {
            throw new IllegalArgumentException("there is no such message");
        }
    }

    private int decision(int from, int to) {
        int preferred = from ^ to;
        int apart = Integer.bitCount(preferred);
        if (apart == 0 || safety.levelOf(from) >= apart
                || safety.bestLevel(from, preferred) >= apart - 1) {
            return OPTIMAL;
        }
        if (safety.bestLevel(from, safety.spareOf(preferred)) >= apart + 1) {
            return DETOUR;
        }
        return REFUSED;
    }

    private int lengthOfRoute(int from, int to) {
        int decision = decision(from, to);
        if (decision == REFUSED) {
            return NONE;
        }
        int apart = Integer.bitCount(from ^ to);
        return decision == DETOUR ? apart + 2 : apart;
    }

    /** For a route that is not refused and an index that it has. */
    private int nodeOfRoute(int from, int to, int index) {
        boolean detour = decision(from, to) == DETOUR;
        int node = from;
        for (int i = 0; i < index; i++) {
            int preferred = node ^ to;
            int dimensions = detour && i == 0 ? safety.spareOf(preferred) : preferred;
            node = neighbour(node, safety.bestDimension(node, dimensions));
        }
        return node;
    }

    /** The bases of all free subcubes whose dimensions are those of the mask. */
    private long freeBases(int mask) {
        long bases = now.alive;
        for (int k = 0; k < now.dimension; k++) {
            if (hasBit(mask, k)) {
                bases &= (bases >>> (1 << k)) & lowNodes(k);
            }
        }
        return bases;
    }

    // ---- numbers, sets of nodes (bit v for node v) and rows

    private static boolean hasBit(int mask, int k) {
        return (mask >>> k & 1) == 1;
    }

    private static boolean contains(long nodes, int node) {
        return (nodes >>> node & 1L) == 1L;
    }

    private static int neighbour(int node, int k) {
        return node ^ (1 << k);
    }

    private static long lowNodes(int k) {
        return k >= 0 && k < LOW_NODES.length ? LOW_NODES[k] : 0L;
    }

    /** The node with the least number, of a set that has one. */
    private static int leastNode(long nodes) {
        return Long.bitCount((nodes & -nodes) - 1L);
    }

    private static long neighboursOfSet(long nodes, int dimension) {
        long found = 0L;
        for (int k = 0; k < dimension; k++) {
            long low = lowNodes(k);
            found |= (nodes & low) << (1 << k);
            found |= (nodes >>> (1 << k)) & low;
        }
        return found;
    }

    private static int read(int[] row, int index) {
        return index >= 0 && index < row.length ? row[index] : 0;
    }

    private static void write(int[] row, int index, int value) {
        if (index >= 0 && index < row.length) {
            row[index] = value;
        }
    }

    /** All that undo() restores. */
    private static final class Situation {
        private int dimension;
        private long alive;
        private int steps;
        private int messages;
        private final int[] states = new int[MAX_MESSAGES];
        private final int[] positions = new int[MAX_MESSAGES];
        private final int[] goals = new int[MAX_MESSAGES];
        private final int[] moveCounts = new int[MAX_MESSAGES];
        private final int[] detourCounts = new int[MAX_MESSAGES];

        void restart(int newDimension) {
            dimension = newDimension;
            // A shift by 64 would shift by 0, so the set of all nodes is cut from -1.
            alive = -1L >>> (MAX_NODES - (1 << newDimension));
            steps = 0;
            messages = 0;
        }

        void copyFrom(Situation other) {
            dimension = other.dimension;
            alive = other.alive;
            steps = other.steps;
            messages = other.messages;
            System.arraycopy(other.states, 0, states, 0, MAX_MESSAGES);
            System.arraycopy(other.positions, 0, positions, 0, MAX_MESSAGES);
            System.arraycopy(other.goals, 0, goals, 0, MAX_MESSAGES);
            System.arraycopy(other.moveCounts, 0, moveCounts, 0, MAX_MESSAGES);
            System.arraycopy(other.detourCounts, 0, detourCounts, 0, MAX_MESSAGES);
        }

        int addMessage(int from, int to) {
            int message = messages;
            write(states, message, from == to ? DELIVERED : MOVING);
            write(positions, message, from);
            write(goals, message, to);
            write(moveCounts, message, 0);
            write(detourCounts, message, 0);
            messages++;
            return message;
        }

        /** Returns the number of messages that become LOST. */
        int letDie(long dying) {
            alive &= ~dying;
            int lost = 0;
            for (int message = 0; message < messages; message++) {
                boolean hit = contains(dying, read(positions, message))
                        || contains(dying, read(goals, message));
                if (hit && read(states, message) == MOVING) {
                    write(states, message, LOST);
                    lost++;
                }
            }
            return lost;
        }
    }

    /** The latest saved situations, in a ring that overwrites the oldest. */
    private static final class UndoStack {
        private final Situation[] ring = new Situation[MAX_SAVED];
        private int next;
        private int size;

        UndoStack() {
            for (int i = 0; i < ring.length; i++) {
                ring[i] = new Situation();
            }
        }

        void save(Situation now) {
            Situation slot = slotAt(next);
            if (slot != null) {
                slot.copyFrom(now);
                next = (next + 1) % MAX_SAVED;
                size = Math.min(size + 1, MAX_SAVED);
            }
        }

        void restoreInto(Situation now) {
            int latest = (next + MAX_SAVED - 1) % MAX_SAVED;
            Situation slot = slotAt(latest);
            if (slot != null && size > 0) {
                now.copyFrom(slot);
                next = latest;
                size--;
            }
        }

        private Situation slotAt(int index) {
            return index >= 0 && index < ring.length ? ring[index] : null;
        }
    }

    /** Safety levels and safety vectors. */
    private static final class Safety {
        /** Every round but the last lowers some level, and no level falls below 0. */
        private static final int MAX_ROUNDS = MAX_NODES * MAX_DIMENSION + 1;

        private int dimension;
        private int changingRounds;
        private final int[] levels = new int[MAX_NODES];
        private final int[] levelsBefore = new int[MAX_NODES];
        /** At k: the nodes whose bit u(k) is 1. */
        private final long[] vectorSets = new long[MAX_DIMENSION + 1];

        void find(int newDimension, long alive) {
            dimension = newDimension;
            startLevels(alive);
            changingRounds = 0;
            boolean changing = true;
            for (int round = 0; round < MAX_ROUNDS && changing; round++) {
                changing = roundChanges(alive);
                changingRounds += changing ? 1 : 0;
            }
            findVectors(alive);
        }

        private void startLevels(long alive) {
            for (int node = 0; node < MAX_NODES; node++) {
                write(levels, node, contains(alive, node) ? dimension : 0);
            }
        }

        private boolean roundChanges(long alive) {
            System.arraycopy(levels, 0, levelsBefore, 0, MAX_NODES);
            boolean changed = false;
            for (int node = 0; node < MAX_NODES; node++) {
                if (contains(alive, node)) {
                    int newLevel = levelAfterRound(node);
                    if (newLevel != read(levelsBefore, node)) {
                        changed = true;
                    }
                    write(levels, node, newLevel);
                }
            }
            return changed;
        }

        /** Sorted, S(k) is less than k just when more than k of them are. */
        private int levelAfterRound(int node) {
            for (int k = 0; k < dimension; k++) {
                if (neighboursBelow(node, k) > k) {
                    return k;
                }
            }
            return dimension;
        }

        private int neighboursBelow(int node, int bound) {
            int below = 0;
            for (int k = 0; k < dimension; k++) {
                if (read(levelsBefore, neighbour(node, k)) < bound) {
                    below++;
                }
            }
            return below;
        }

        private void findVectors(long alive) {
            Arrays.fill(vectorSets, 0L);
            long ones = alive;
            for (int k = 1; k < vectorSets.length && k <= dimension; k++) {
                if (k > 1) {
                    ones = withNeighboursAbove(ones, dimension - k) & alive;
                }
                vectorSets[k] = ones;
            }
        }

        /** The nodes of which more than the bound of the neighbours are in the set. */
        private long withNeighboursAbove(long nodes, int bound) {
            long found = 0L;
            for (int node = 0; node < MAX_NODES; node++) {
                int inside = 0;
                for (int k = 0; k < dimension; k++) {
                    if (contains(nodes, neighbour(node, k))) {
                        inside++;
                    }
                }
                if (inside > bound) {
                    found |= 1L << node;
                }
            }
            return found;
        }

        int levelOf(int node) {
            return read(levels, node);
        }

        int bitOf(int node, int k) {
            boolean one = k >= 0 && k < vectorSets.length && contains(vectorSets[k], node);
            return one ? 1 : 0;
        }

        int spareOf(int preferred) {
            return ((1 << dimension) - 1) & ~preferred;
        }

        /** Of the dimensions the one whose neighbour has the greatest level, or NONE. */
        int bestDimension(int node, int dimensions) {
            int best = NONE;
            int greatest = -1;
            for (int k = 0; k < dimension; k++) {
                if (hasBit(dimensions, k) && levelOf(neighbour(node, k)) > greatest) {
                    best = k;
                    greatest = levelOf(neighbour(node, k));
                }
            }
            return best;
        }

        /** The level of the neighbour in the best dimension, -1 if there is none. */
        int bestLevel(int node, int dimensions) {
            int best = bestDimension(node, dimensions);
            return best == NONE ? -1 : levelOf(neighbour(node, best));
        }
    }

    /** One broadcast, told by the times at which the nodes have its message. */
    private static final class Broadcast {
        private final int[] times = new int[MAX_NODES];
        private final int[] lists = new int[MAX_NODES];
        private final int[] queue = new int[MAX_NODES];
        private int receivers;

        void run(int from, long alive, Safety safety) {
            Arrays.fill(times, NONE);
            receivers = 0;
            receive(from, 0, safety.spareOf(0));
            for (int head = 0; head < receivers && head < MAX_NODES; head++) {
                passOn(read(queue, head), alive, safety);
            }
        }

        int timeOf(int node) {
            return read(times, node);
        }

        /** Picking the best of what is left, again and again, goes through the sorted list. */
        private void passOn(int node, long alive, Safety safety) {
            int rest = read(lists, node);
            for (int i = 0; i < MAX_DIMENSION && rest != 0; i++) {
                int k = safety.bestDimension(node, rest);
                rest &= ~(1 << k);
                int receiver = neighbour(node, k);
                if (contains(alive, receiver)) {
                    receive(receiver, timeOf(node) + 1, rest);
                }
            }
        }

        private void receive(int node, int time, int list) {
            write(times, node, time);
            write(lists, node, list);
            write(queue, receivers, node);
            receivers++;
        }
    }

    /**
     * Disjoint paths as a greatest flow. Each node has an entry (2 * node) and an exit
     * (2 * node + 1); one path may lead from the one to the other.
     */
    private static final class PathPacking {
        private final int[] leaving = new int[MAX_NODES];
        private final int[] cameFrom = new int[2 * MAX_NODES];
        private final int[] queue = new int[2 * MAX_NODES];
        private int found;
        private int source;
        private int goal;
        private int dimension;
        private long alive;

        int largest(int from, int to, int newDimension, long newAlive) {
            source = from;
            goal = to;
            dimension = newDimension;
            alive = newAlive;
            Arrays.fill(leaving, 0);
            int paths = 0;
            for (int i = 0; i < MAX_DIMENSION; i++) {
                if (!findsPath()) {
                    return paths;
                }
                addPath();
                paths++;
            }
            return paths;
        }

        private boolean findsPath() {
            Arrays.fill(cameFrom, NONE);
            found = 0;
            discover(exit(source), exit(source));
            for (int head = 0; head < found && head < queue.length; head++) {
                int end = queue[head];
                if (end == entry(goal)) {
                    return true;
                }
                if (end == entry(end / 2)) {
                    searchFromEntry(end / 2);
                } else {
                    searchFromExit(end / 2);
                }
            }
            return false;
        }

        /** Onward where no path goes yet, or back through a node that a path uses. */
        private void searchFromExit(int node) {
            int used = read(leaving, node);
            for (int k = 0; k < dimension; k++) {
                int other = neighbour(node, k);
                if (!hasBit(used, k) && other != source && contains(alive, other)) {
                    discover(entry(other), exit(node));
                }
            }
            if (node != source && used != 0) {
                discover(entry(node), exit(node));
            }
        }

        /** Through the node if no path uses it, or back along a path that comes to it. */
        private void searchFromEntry(int node) {
            if (read(leaving, node) == 0) {
                discover(exit(node), entry(node));
            }
            for (int k = 0; k < dimension; k++) {
                int other = neighbour(node, k);
                if (hasBit(read(leaving, other), k)) {
                    discover(exit(other), entry(node));
                }
            }
        }

        private void discover(int end, int previous) {
            if (read(cameFrom, end) == NONE) {
                write(cameFrom, end, previous);
                write(queue, found, end);
                found++;
            }
        }

        private void addPath() {
            int end = entry(goal);
            for (int i = 0; i < cameFrom.length && end != exit(source); i++) {
                int previous = read(cameFrom, end);
                int node = end / 2;
                int before = previous / 2;
                if (node != before && end == entry(node)) {
                    write(leaving, before, read(leaving, before) | (node ^ before));
                } else if (node != before) {
                    write(leaving, node, read(leaving, node) & ~(node ^ before));
                }
                end = previous;
            }
        }

        private static int entry(int node) {
            return 2 * node;
        }

        private static int exit(int node) {
            return 2 * node + 1;
        }
    }

    /** The moves of the messages in one step. */
    private static final class Traffic {
        /** For each node the dimensions in which a message has left it in this step. */
        private final int[] usedWays = new int[MAX_NODES];

        /** Returns the number of moves. */
        int oneStep(Situation now, Safety safety) {
            Arrays.fill(usedWays, 0);
            int made = 0;
            for (int message = 0; message < now.messages; message++) {
                if (read(now.states, message) == MOVING && moved(message, now, safety)) {
                    made++;
                }
            }
            now.steps++;
            return made;
        }

        private boolean moved(int message, Situation now, Safety safety) {
            int node = read(now.positions, message);
            int preferred = node ^ read(now.goals, message);
            // Just the dead nodes have the level 0.
            boolean detour = safety.bestLevel(node, preferred) < 1;
            int dimensions = detour ? safety.spareOf(preferred) : preferred;
            if (detour && read(now.detourCounts, message) >= MAX_DETOURS
                    || safety.bestLevel(node, dimensions) < 1) {
                return false;
            }
            int way = safety.bestDimension(node, dimensions);
            if (hasBit(read(usedWays, node), way)) {
                return false;
            }
            write(usedWays, node, read(usedWays, node) | 1 << way);
            move(message, neighbour(node, way), detour, now);
            return true;
        }

        private void move(int message, int node, boolean detour, Situation now) {
            write(now.positions, message, node);
            write(now.moveCounts, message, read(now.moveCounts, message) + 1);
            if (detour) {
                write(now.detourCounts, message, read(now.detourCounts, message) + 1);
            }
            if (node == read(now.goals, message)) {
                write(now.states, message, DELIVERED);
            }
        }
    }
}
