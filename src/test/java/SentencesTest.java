import java.util.ArrayList;
import java.util.Arrays;
import java.util.List;

/**
 * The sentences of the document that name no boundary case, from the first to the last: each
 * stands above its test. What is due is counted here, from the sentence, or by hand.
 */
public final class SentencesTest {
    private static final Checks C = new Checks("SentencesTest");
    private static final int MOST_CALLS = 512;

    private static long seed = 12805L;

    private interface Call {
        long answer(FaultyCube x);
    }

    public static void main(String[] args) {
        everyLastCall();
        noSuchValue();
        neighbours();
        distances();
        preferredAndSpare();
        roundsAtTheSameTime();
        deadNodesKeepTheirLevel();
        roundsUntilNothingChanges();
        neverGreater();
        routesFromNodeToNode();
        allAtTheSameTime();
        lowerDimensionFirst();
        subcubesOfMaskAndBase();
        largestSetOfPaths();
        orderOfTheNumbers();
        levelsAsTheyAre();
        movesOfAllTogether();
        onlyThoseThatMove();
        C.end();
    }

    private static int below(int bound) {
        seed = seed * 6364136223846793005L + 1442695040888963407L;
        return (int) ((seed >>> 33) % bound);
    }

    /** Some nodes of a cube, each with this number of chances in ten. */
    private static int[] someNodes(int d, int chances) {
        int[] nodes = new int[1 << d];
        int found = 0;
        for (int v = 0; v < 1 << d; v++) {
            if (below(10) < chances) {
                nodes[found++] = v;
            }
        }
        return Arrays.copyOf(nodes, found);
    }

    /** Bit k of a number, counted by halves. */
    private static int digit(int number, int k) {
        int rest = number;
        for (int i = 0; i < k; i++) {
            rest /= 2;
        }
        return rest % 2;
    }

    private static int digitsApart(int a, int b) {
        int apart = 0;
        for (int k = 0; k < 6; k++) {
            apart += digit(a, k) == digit(b, k) ? 0 : 1;
        }
        return apart;
    }

    // "An object is used for at most 512 calls after it has been made": each kind of call as
    // the 512th, when the 500 before it were questions, or calls that save a state
    private static void everyLastCall() {
        String[] names = {
            "setDimension", "kill", "revive", "killAll", "isAlive", "distance", "shortest",
            "level", "rounds", "safeNodes", "vectorBit", "decide", "routeLength", "routeNode",
            "reach", "broadcastTime", "broadcastSize", "freeSubcubes", "largestSubcube",
            "disjointPaths", "send", "step", "state", "position", "moves", "count", "undo",
            "digest"
        };
        Call[] calls = {
            x -> x.setDimension(5), x -> x.kill(4), x -> x.revive(2), x -> x.killAll(-1),
            x -> x.isAlive(2) ? 1 : 0, x -> x.distance(1, 6), x -> x.shortest(0, 3),
            x -> x.level(0), x -> x.rounds(), x -> x.safeNodes(), x -> x.vectorBit(0, 2),
            x -> x.decide(0, 3), x -> x.routeLength(0, 3), x -> x.routeNode(0, 3, 2),
            x -> x.reach(0, 0), x -> x.broadcastTime(0, 7), x -> x.broadcastSize(0),
            x -> x.freeSubcubes(2), x -> x.largestSubcube(), x -> x.disjointPaths(4, 7),
            x -> x.send(0, 3), x -> x.step(20), x -> x.state(0), x -> x.position(0),
            x -> x.moves(0), x -> x.count(0), x -> x.undo(), x -> x.digest()
        };
        // The cube of example 2 and a message that has made its detour to 4.
        long digest = Cubes.fold(4, 3, 1, 1, 4, 196,
                1, 1, 0, 1, 0, 0, 0, 0, 0, 0, 0, 0, 1, 1, 0, 1,
                3, 1, 1, 1, 3, 1, 1, 1, 3, 1, 1, 1, 3, 1, 1, 1,
                1, 0, 4, 3, 1, 1);
        long[] want = {
            3, 1, 1, 6, 0, 3, 4, 1, 1, 4, 0, 1, 4, 5, 4, 3, 5, 1, 196, 2, 1, 3, 0, 4, 1, 1, 3,
            digest
        };
        for (int i = 0; i < calls.length; i++) {
            Call last = calls[i];
            for (boolean saving : new boolean[] {false, true}) {
                FaultyCube x = Cubes.of(3, 1, 2);
                x.send(0, 3);
                x.step(1);
                int used = 5;
                for (; used < MOST_CALLS - 1; used++) {
                    if (saving) {
                        x.killAll(2);
                    } else {
                        askInTurn(x, used);
                    }
                }
                C.due(names[i] + ", the 512th call" + (saving ? " of many that save" : ""),
                        want[i], () -> last.answer(x));
            }
        }
    }

    private static void askInTurn(FaultyCube x, int turn) {
        int node = turn % 8;
        switch (turn % 6) {
            case 0: x.broadcastTime(0, node); break;
            case 1: x.disjointPaths(0, 4); break;
            case 2: x.routeNode(0, 3, node); break;
            case 3: x.shortest(0, 7); break;
            case 4: x.reach(7, node % 3); break;
            default: x.digest(); break;
        }
    }

    // "`NONE = -1`: Returned where there is no such value.": every call that returns it
    private static void noSuchValue() {
        FaultyCube x = Cubes.only(4, 0, 15);
        C.due("NONE by shortest", FaultyCube.NONE, () -> x.shortest(0, 15));
        C.due("NONE by routeLength", FaultyCube.NONE, () -> x.routeLength(0, 15));
        C.due("NONE by routeNode, refused", FaultyCube.NONE, () -> x.routeNode(0, 15, 0));
        C.due("NONE by routeNode, too far", FaultyCube.NONE, () -> x.routeNode(15, 15, 1));
        C.due("NONE by broadcastTime", FaultyCube.NONE, () -> x.broadcastTime(0, 15));
        x.killAll(-1);
        C.due("NONE by largestSubcube", FaultyCube.NONE, () -> x.largestSubcube());
    }

    // "Node v has a neighbour in each dimension k from 0 to d - 1, namely the node whose number
    // differs from v in bit k alone."
    private static void neighbours() {
        for (int d = 1; d <= 6; d++) {
            for (int v = 0; v < 1 << d; v++) {
                boolean[] beside = new boolean[1 << d];
                for (int k = 0, power = 1; k < d; k++, power *= 2) {
                    beside[digit(v, k) == 1 ? v - power : v + power] = true;
                }
                FaultyCube x = Cubes.of(d);
                for (int w = 0; w < 1 << d; w++) {
                    int from = v;
                    int to = w;
                    String what = "neighbours " + v + " and " + w + " of " + d;
                    long want = beside[w] ? 1 : 0;
                    C.due(what, want, () -> x.shortest(from, to) == 1 ? 1 : 0);
                    C.due(what + ", by a broadcast", want,
                            () -> x.broadcastTime(from, to) == 1 ? 1 : 0);
                }
                onlyNeighboursCount(d, v, beside);
            }
        }
    }

    /** Where all others are dead, the neighbours are all that a node can see. */
    private static void onlyNeighboursCount(int d, int v, boolean[] beside) {
        FaultyCube x = Cubes.of(d);
        for (int w = 0; w < 1 << d; w++) {
            if (w != v && !beside[w]) {
                x.kill(w);
            }
        }
        String what = "with its neighbours alone alive, " + v + " of " + d;
        C.due("freeSubcubes(1) " + what, d, () -> x.freeSubcubes(1));
        C.due("broadcastSize " + what, d + 1, () -> x.broadcastSize(v));
        C.due("reach, OPTIMAL " + what, d, () -> x.reach(v, FaultyCube.OPTIMAL));
        for (int w = 0; w < 1 << d; w++) {
            if (beside[w]) {
                x.kill(w);
            }
        }
        C.due("broadcastSize, alone " + what, 1, () -> x.broadcastSize(v));
    }

    // "The distance of two nodes is the number of bits in which their numbers differ.",
    // "Returns the distance of two nodes, dead or alive."
    private static void distances() {
        for (int d = 1; d <= 6; d++) {
            for (int from = 0; from < 1 << d; from++) {
                FaultyCube x = Cubes.of(d);
                x.killAll(0x5A3C96F1);
                for (int to = 0; to < 1 << d; to++) {
                    int s = from;
                    int t = to;
                    C.due("distance(" + s + ", " + t + ") of " + d, digitsApart(s, t),
                            () -> x.distance(s, t));
                }
            }
        }
    }

    // "a dimension k is preferred if v and t differ in bit k, and spare otherwise", "A neighbour
    // in a preferred dimension is a preferred neighbour; a neighbour in a spare dimension is a
    // spare neighbour.": the one living neighbour is taken without or with a detour
    private static void preferredAndSpare() {
        for (int d = 2; d <= 4; d++) {
            for (int v = 0; v < 1 << d; v++) {
                for (int t = 0; t < 1 << d; t++) {
                    for (int k = 0; k < d && digitsApart(v, t) > 1; k++) {
                        onlyNeighbour(d, v, t, k);
                    }
                }
            }
        }
    }

    private static void onlyNeighbour(int d, int v, int t, int k) {
        int beside = digit(v, k) == 1 ? v - (1 << k) : v + (1 << k);
        FaultyCube x = Cubes.only(d, v, t, beside);
        x.killAll(0);
        x.killAll(0);
        x.send(v, t);
        x.step(1);
        int detours = digit(v, k) == digit(t, k) ? 1 : 0;
        long h = Cubes.fold(4, d, 1, x.rounds(), x.safeNodes(), x.largestSubcube());
        for (int node = 0; node < 1 << d; node++) {
            h = Cubes.foldOn(h, x.level(node));
            for (int bit = 1; bit <= d; bit++) {
                h = Cubes.foldOn(h, x.vectorBit(node, bit));
            }
        }
        h = Cubes.foldOn(h, 1, FaultyCube.MOVING, beside, t, 1, detours);
        C.due("from " + v + " to " + t + " of " + d + " by dimension " + k + ", the digest", h,
                x::digest);
    }

    // "In a round all nodes that are alive get new levels at the same time": node by node, in
    // ascending or in descending order, the last node would have its level a round earlier
    private static void roundsAtTheSameTime() {
        FaultyCube up = Cubes.of(3, 1, 2, 4);
        C.due("9 level(7), all its neighbours have 1", 2, () -> up.level(7));
        C.due("10 rounds(), ascending would be 1", 2, () -> up.rounds());
        FaultyCube down = Cubes.of(3, 6, 5, 3);
        C.due("9 level(0), all its neighbours have 1", 2, () -> down.level(0));
        C.due("10 rounds(), descending would be 1", 2, () -> down.rounds());
    }

    // "Dead nodes keep the level 0.", "All bits of a dead node are 0.": with all others safe
    private static void deadNodesKeepTheirLevel() {
        for (int d = 1; d <= 6; d++) {
            for (int v = 0; v < 1 << d; v++) {
                int node = v;
                FaultyCube x = Cubes.of(d, v);
                C.due("9 level(" + v + ") of " + d + ", dead", 0, () -> x.level(node));
                C.due("11 safe nodes of " + d, (1 << d) - 1, () -> x.safeNodes());
                for (int k = 1; k <= d; k++) {
                    int bit = k;
                    C.due("12 u(" + k + ") of " + v + " of " + d + ", dead", 0,
                            () -> x.vectorBit(node, bit));
                }
            }
        }
    }

    // "Rounds are made until a round changes no level.": another round would change none
    private static void roundsUntilNothingChanges() {
        for (int i = 0; i < 600; i++) {
            int d = 1 + i % 6;
            int[] dead = someNodes(d, 1 + i % 5);
            FaultyCube x = Cubes.of(d, dead);
            int[] levels = levelsOf(x, d);
            for (int v = 0; v < 1 << d; v++) {
                int level = levels[v];
                int again = x.isAlive(v) ? levelOfNeighbours(d, v, levels) : 0;
                C.due("9 level(" + v + ") of " + d + " by its neighbours, dead "
                        + Arrays.toString(dead), again, () -> level);
            }
        }
    }

    private static int[] levelsOf(FaultyCube x, int d) {
        int[] levels = new int[1 << d];
        for (int v = 0; v < 1 << d; v++) {
            levels[v] = x.level(v);
        }
        return levels;
    }

    // "let S(0) <= S(1) <= ... be the levels of the neighbours ..; the new level is the least k
    // for which S(k) is less than k, or d if there is no such k"
    private static int levelOfNeighbours(int d, int v, int[] levels) {
        int[] s = new int[d];
        for (int k = 0; k < d; k++) {
            s[k] = levels[digit(v, k) == 1 ? v - (1 << k) : v + (1 << k)];
        }
        Arrays.sort(s);
        for (int k = 0; k < d; k++) {
            if (s[k] < k) {
                return k;
            }
        }
        return d;
    }

    // "(The new levels are never greater than the old ones.)": so none is greater than d, and
    // none becomes greater when a node dies, nor less when it is alive again
    private static void neverGreater() {
        for (int i = 0; i < 300; i++) {
            int d = 1 + i % 6;
            int[] dead = someNodes(d, i % 4);
            FaultyCube x = Cubes.of(d, dead);
            int[] before = levelsOf(x, d);
            int node = below(1 << d);
            if (x.isAlive(node)) {
                x.kill(node);
                int[] after = levelsOf(x, d);
                x.revive(node);
                int[] again = levelsOf(x, d);
                for (int v = 0; v < 1 << d; v++) {
                    String what = "9 level(" + v + ") of " + d + ", then " + node + " dies";
                    boolean less = after[v] <= before[v] && before[v] <= d;
                    C.due(what, 1, () -> less ? 1 : 0);
                    int restored = again[v];
                    C.due(what + " and is alive again", before[v], () -> restored);
                }
            }
        }
    }

    // "To go on from a node v (other than t) to t means to go to the preferred neighbour with
    // the greatest safety level; of several, to the one in the lowest dimension.", "the route
    // goes first to the spare neighbour with the greatest safety level", "its length is h", "its
    // length is h + 2", "(These routes never come to a dead node.)"
    private static void routesFromNodeToNode() {
        for (int i = 0; i < 900; i++) {
            int d = 1 + i % 6;
            int[] dead = someNodes(d, 1 + i % 4);
            FaultyCube x = Cubes.of(d, dead);
            int[] levels = levelsOf(x, d);
            for (int pair = 0; pair < 24; pair++) {
                int from = below(1 << d);
                int to = below(1 << d);
                if (levels[from] > 0 && levels[to] > 0) {
                    oneRoute(x, d, levels, from, to);
                }
            }
        }
    }

    private static void oneRoute(FaultyCube x, int d, int[] levels, int from, int to) {
        String what = "15 the route from " + from + " to " + to + " of " + d;
        int decision = x.decide(from, to);
        int h = digitsApart(from, to);
        int length = decision == FaultyCube.REFUSED ? -1
                : decision == FaultyCube.DETOUR ? h + 2 : h;
        C.due(what + ", the length", length, () -> x.routeLength(from, to));
        int node = from;
        for (int i = 0; i <= length; i++) {
            int index = i;
            int want = node;
            C.due(what + ", " + i, want, () -> x.routeNode(from, to, index));
            C.due(what + ", " + i + ", alive", 1, () -> levels[want] > 0 ? 1 : 0);
            boolean spare = decision == FaultyCube.DETOUR && i == 0;
            node = i < length ? goOn(d, levels, node, to, spare) : node;
        }
        int end = node;
        C.due(what + ", the end", length < 0 ? from : to, () -> end);
        C.due(what + ", beyond", FaultyCube.NONE, () -> x.routeNode(from, to, length + 1));
    }

    private static int goOn(int d, int[] levels, int node, int to, boolean spare) {
        int best = node;
        int greatest = -1;
        for (int k = d - 1; k >= 0; k--) {
            int next = digit(node, k) == 1 ? node - (1 << k) : node + (1 << k);
            boolean wanted = spare == (digit(node, k) == digit(to, k));
            if (wanted && levels[next] >= greatest) {
                best = next;
                greatest = levels[next];
            }
        }
        return best;
    }

    // "It sends the message to the neighbours in these dimensions, all at the same time": each
    // living neighbour of the first node has it at the time 1, the last of the list too
    private static void allAtTheSameTime() {
        for (int i = 0; i < 240; i++) {
            int d = 1 + i % 6;
            FaultyCube x = Cubes.of(d, someNodes(d, 1 + i % 5));
            int from = below(1 << d);
            if (x.isAlive(from)) {
                for (int k = 0; k < d; k++) {
                    int to = from ^ 1 << k;
                    C.due("17 broadcastTime(" + from + ", " + to + ") of " + d,
                            x.isAlive(to) ? 1 : FaultyCube.NONE, () -> x.broadcastTime(from, to));
                }
            }
        }
    }

    // "of equal ones the lower dimension first", "the neighbour in the dimension at position i
    // of the sorted list .. gets the dimensions at the positions i + 1 to n - 1 as its list"
    private static void lowerDimensionFirst() {
        FaultyCube x = Cubes.of(4, 1, 2, 13, 14);
        int[] levels = {1, 0, 0, 1, 2, 1, 1, 2, 2, 1, 1, 2, 1, 0, 0, 1};
        // 0 sorts 2, 3, 0, 1: 4 gets 3, 0, 1 and sorts 0, 1, 3, so 5 gets 1, 3, and 7 gets 3
        // and sends to 15; 8 gets 0, 1, so 9 gets 1 and sends to 11. If 4 put 3 first, 7 would
        // get nothing and 15 would not have the message.
        int[] times = {0, -1, -1, -1, 1, 2, 2, 3, 1, 2, 2, 3, 2, -1, -1, 4};
        for (int v = 0; v < 16; v++) {
            int node = v;
            C.due("9 level(" + v + "), two and two dead", levels[v], () -> x.level(node));
            C.due("17 broadcastTime(0, " + v + ")", times[v], () -> x.broadcastTime(0, node));
        }
        C.due("18 broadcastSize(0)", 11, () -> x.broadcastSize(0));
    }

    // "A subcube is given by a set of dimensions (a mask with bit k for dimension k) and a base
    // node that has the bit 0 in all of them; its nodes are all nodes that agree with the base
    // in all other dimensions. Its dimension is the number of dimensions of the mask. A subcube
    // is free if all its nodes are alive."
    private static void subcubesOfMaskAndBase() {
        for (int d = 1; d <= 6; d++) {
            for (int mask = 0; mask < 1 << d; mask++) {
                for (int base = 0; base < 1 << d; base++) {
                    boolean isBase = true;
                    for (int k = 0; k < d; k++) {
                        isBase &= digit(mask, k) == 0 || digit(base, k) == 0;
                    }
                    if (isBase) {
                        oneSubcube(d, mask, base);
                    }
                }
            }
        }
    }

    private static void oneSubcube(int d, int mask, int base) {
        List<Integer> nodes = new ArrayList<>();
        for (int v = 0; v < 1 << d; v++) {
            boolean agrees = true;
            for (int k = 0; k < d; k++) {
                agrees &= digit(mask, k) == 1 || digit(v, k) == digit(base, k);
            }
            if (agrees) {
                nodes.add(v);
            }
        }
        int[] living = new int[nodes.size()];
        for (int i = 0; i < living.length; i++) {
            living[i] = nodes.get(i);
        }
        int dimension = digitsApart(mask, 0);
        FaultyCube x = Cubes.only(d, living);
        String what = " of mask " + mask + ", base " + base + " of " + d;
        C.due("20 largestSubcube()" + what, 64 * mask + base, () -> x.largestSubcube());
        for (int k = 0; k <= d; k++) {
            int size = k;
            C.due("19 freeSubcubes(" + k + ")" + what, subcubes(dimension, k),
                    () -> x.freeSubcubes(size));
        }
        x.kill(living[below(living.length)]);
        C.due("19 freeSubcubes(), one node dead" + what, 0, () -> x.freeSubcubes(dimension));
    }

    /** In a cube of dimension d: choose k dimensions, and a bit in each of the others. */
    private static long subcubes(int d, int k) {
        if (k > d) {
            return 0;
        }
        long found = 1;
        for (int i = 0; i < k; i++) {
            found = found * (d - i) / (i + 1);
        }
        return found << d - k;
    }

    // "The disjoint paths of two different nodes s and t that are alive are a largest set of
    // paths from s to t over nodes that are alive, no two of which have a node other than s and
    // t in common.": all paths of all cubes of the dimensions 1 to 3, and all sets of them
    private static void largestSetOfPaths() {
        for (int d = 1; d <= 3; d++) {
            for (int dead = 0; dead < 1 << (1 << d); dead++) {
                FaultyCube x = Cubes.of(d);
                x.killAll(dead);
                for (int from = 0; from < 1 << d; from++) {
                    for (int to = 0; to < 1 << d; to++) {
                        if (from != to && digit(dead, from) == 0 && digit(dead, to) == 0) {
                            int s = from;
                            int t = to;
                            List<Integer> paths = new ArrayList<>();
                            findPaths(d, dead | 1 << s, s, t, 0, paths);
                            C.due("21 disjointPaths(" + s + ", " + t + ") of " + d + ", dead set "
                                    + dead, mostDisjoint(paths, 0, 0),
                                    () -> x.disjointPaths(s, t));
                        }
                    }
                }
            }
        }
    }

    /** Each path by the set of the nodes between its ends; none comes to a barred node. */
    private static void findPaths(int d, int barred, int at, int to, int between,
            List<Integer> paths) {
        for (int k = 0; k < d; k++) {
            int next = at ^ 1 << k;
            if (next == to) {
                paths.add(between);
            } else if (digit(barred | between, next) == 0) {
                findPaths(d, barred, next, to, between | 1 << next, paths);
            }
        }
    }

    private static int mostDisjoint(List<Integer> paths, int first, int used) {
        int most = 0;
        for (int i = first; i < paths.size(); i++) {
            if ((paths.get(i) & used) == 0) {
                most = Math.max(most, 1 + mostDisjoint(paths, i + 1, used | paths.get(i)));
            }
        }
        return most;
    }

    // "In a step the messages that are MOVING are considered in the order of their numbers.":
    // not in the order in which they came to the node
    private static void orderOfTheNumbers() {
        FaultyCube x = new FaultyCube();
        x.send(1, 3);
        x.send(0, 3);
        x.send(1, 3);
        C.due("23 0 and 1 move, 2 waits for 0", 2, () -> x.step(1));
        C.due("25 position(1)", 1, () -> x.position(1));
        C.due("25 position(2)", 1, () -> x.position(2));
        C.due("23 1 has come to 1 later, but goes first", 1, () -> x.step(1));
        C.due("24 state(1)", FaultyCube.DELIVERED, () -> x.state(1));
        C.due("24 state(2)", FaultyCube.MOVING, () -> x.state(2));
        C.due("23 2 goes last", 1, () -> x.step(20));
        C.due("26 moves(2)", 1, () -> x.moves(2));
    }

    // "A message at the node v chooses a neighbour w with the safety levels as they are": not as
    // they were when it was sent, nor when it last moved
    private static void levelsAsTheyAre() {
        FaultyCube x = new FaultyCube();
        x.send(0, 15);
        x.send(0, 15);
        x.kill(5);
        x.kill(9);
        C.due("9 level(1), two dead beside it", 1, () -> x.level(1));
        C.due("23 one moves, one waits", 1, () -> x.step(1));
        C.due("25 by the greater level", 2, () -> x.position(0));
        x.revive(9);
        C.due("9 level(1), one dead beside it", 4, () -> x.level(1));
        C.due("23 both move", 2, () -> x.step(1));
        C.due("25 by the lowest dimension again", 1, () -> x.position(1));
        C.due("25 from 2 to 3", 3, () -> x.position(0));
        x.undo();
        x.undo();
        C.due("9 level(1), the levels after undo()", 1, () -> x.level(1));
        C.due("23 both move after undo()", 2, () -> x.step(1));
        C.due("25 by the greater level after undo()", 2, () -> x.position(1));
    }

    // "Returns the number of moves that were made by all messages together.", "Otherwise it
    // moves to w; its number of moves .. increases by 1": as many as the moves of each
    private static void movesOfAllTogether() {
        for (int i = 0; i < 200; i++) {
            int d = 1 + i % 6;
            FaultyCube x = Cubes.of(d, someNodes(d, i % 4));
            int sent = 0;
            for (int j = 0; j < 24; j++) {
                int from = below(1 << d);
                int to = below(1 << d);
                if (x.isAlive(from) && x.isAlive(to)) {
                    x.send(from, to);
                    sent++;
                }
            }
            int n = 1 + i % 20;
            long answered = (long) x.step(n) + x.step(1);
            long moves = 0;
            for (int message = 0; message < sent; message++) {
                moves += x.moves(message);
            }
            C.due("23 step(" + n + ") and step(1) of " + sent + " messages", moves,
                    () -> answered);
        }
    }

    // "the messages that are MOVING are considered": one that is LOST or DELIVERED takes no way
    private static void onlyThoseThatMove() {
        FaultyCube x = new FaultyCube();
        x.send(0, 3);
        x.send(0, 0);
        x.kill(3);
        x.revive(3);
        x.send(0, 3);
        C.due("24 state(0)", FaultyCube.LOST, () -> x.state(0));
        C.due("24 state(1)", FaultyCube.DELIVERED, () -> x.state(1));
        C.due("23 the third alone", 1, () -> x.step(1));
        C.due("25 position(2)", 1, () -> x.position(2));
        C.due("25 position(0)", 0, () -> x.position(0));
        C.due("25 position(1)", 0, () -> x.position(1));
    }
}
