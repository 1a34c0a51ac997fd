import java.util.Arrays;

/**
 * The sentences of the document about the cube, the levels, the routes, the broadcast, the
 * subcubes and the paths that name a boundary case: each sentence stands above its test.
 */
public final class EdgesTest {
    private static final Checks C = new Checks("EdgesTest");

    /** The dimension, the number of rounds, the dead nodes. */
    private static final int[][] ROUNDS = {
        {1, 0}, {1, 0, 1}, {2, 0, 1}, {2, 1, 1, 2}, {3, 0, 4}, {3, 1, 1, 7}, {3, 2, 0, 5, 6},
        {4, 1, 6, 10}, {4, 2, 1, 2, 11}, {4, 3, 5, 9, 12, 15}, {5, 1, 23, 30},
        {5, 2, 0, 6, 20}, {5, 3, 0, 5, 12, 20}, {5, 4, 0, 3, 6, 10, 18}, {6, 1, 2, 26},
        {6, 2, 13, 44, 61}, {6, 3, 18, 20, 24, 48}, {6, 4, 33, 35, 40, 43, 45, 57},
        {6, 5, 3, 18, 23, 41, 45, 51, 53, 60, 63}
    };

    /**
     * The dimension, the node, its level, the k at which S(k) is just k - 1 (where the level
     * is k) or just k (where the level is greater), the dead nodes.
     */
    private static final int[][] LEVELS = {
        {2, 0, 1, 1, 1, 2}, {3, 3, 1, 1, 1, 7}, {3, 3, 2, 1, 0, 5, 6}, {3, 3, 2, 2, 0, 5, 6},
        {4, 2, 1, 1, 6, 10}, {4, 3, 4, 1, 5, 11, 15}, {4, 8, 2, 2, 1, 2, 11},
        {4, 2, 3, 2, 5, 9, 12, 15}, {4, 2, 3, 3, 5, 9, 12, 15}, {5, 18, 2, 1, 0, 6, 20},
        {5, 18, 2, 2, 0, 6, 20}, {5, 25, 3, 2, 0, 5, 12, 20}, {5, 25, 3, 3, 0, 5, 12, 20},
        {5, 29, 4, 3, 0, 3, 6, 10, 18}, {5, 29, 4, 4, 0, 3, 6, 10, 18},
        {6, 10, 1, 1, 2, 26}, {6, 1, 6, 1, 0, 21, 25}, {6, 28, 2, 2, 13, 44, 61},
        {6, 62, 3, 2, 18, 20, 24, 48}, {6, 62, 3, 3, 18, 20, 24, 48},
        {6, 54, 4, 3, 33, 35, 40, 43, 45, 57}, {6, 54, 4, 4, 33, 35, 40, 43, 45, 57},
        {6, 8, 5, 4, 3, 18, 23, 41, 45, 51, 53, 60, 63},
        {6, 8, 5, 5, 3, 18, 23, 41, 45, 51, 53, 60, 63}
    };

    /** The dimension, the node, k, u(k), the dead nodes. */
    private static final int[][] BITS = {
        {2, 0, 2, 0, 1, 2}, {2, 1, 2, 1, 3}, {3, 3, 2, 0, 1, 7}, {3, 1, 2, 1, 0},
        {3, 3, 3, 0, 0, 5, 6}, {3, 3, 3, 1, 1, 7}, {4, 2, 2, 0, 6, 10}, {4, 2, 2, 1, 6},
        {4, 3, 3, 0, 1, 2, 11}, {4, 2, 3, 1, 6, 10}, {4, 7, 4, 0, 5, 6, 10, 15},
        {4, 0, 4, 1, 1, 2, 11}, {5, 22, 2, 0, 23, 30}, {5, 12, 2, 1, 28},
        {5, 4, 3, 0, 0, 6, 20}, {5, 22, 3, 1, 23, 30}, {5, 11, 4, 0, 9, 15, 18, 24},
        {5, 2, 4, 1, 0, 6, 20}, {5, 0, 5, 0, 1, 12, 20, 24, 30}, {5, 1, 5, 1, 2, 4, 19, 21},
        {6, 10, 2, 0, 2, 26}, {6, 1, 2, 1, 3}, {6, 28, 3, 0, 13, 44, 61}, {6, 10, 3, 1, 2, 26},
        {6, 34, 4, 0, 19, 35, 38, 50}, {6, 12, 4, 1, 13, 44, 61},
        {6, 2, 5, 0, 7, 14, 19, 42, 50}, {6, 16, 5, 1, 18, 20, 24, 48},
        {6, 33, 6, 0, 1, 2, 11, 19, 35, 37, 39}, {6, 25, 6, 1, 9, 18, 24, 43, 49, 51}
    };

    /**
     * The dimension, the source, the goal, the decision, the level of the source, the greatest
     * level of a preferred and of a spare neighbour (-1 for none), the dead nodes.
     */
    private static final int[][] DECISIONS = {
        // The level of the source is just h.
        {2, 0, 3, 0, 2, 2, -1}, {4, 8, 4, 0, 2, 4, 1, 1, 2, 11},
        {4, 2, 9, 0, 3, 2, 2, 1, 5, 10, 12, 15}, {5, 25, 22, 0, 4, 3, 3, 2, 4, 7, 14, 16, 31},
        {6, 60, 2, 0, 5, 4, 4, 1, 4, 6, 11, 19, 26, 31, 35, 38, 59}, {6, 0, 63, 0, 6, 6, -1},
        // It is less than h, and the best preferred neighbour has just h - 1.
        {4, 12, 5, 0, 1, 1, 4, 4, 8, 9, 15}, {4, 7, 0, 0, 1, 2, 0, 5, 6, 10, 15},
        {4, 6, 9, 0, 2, 3, -1, 1, 5, 10, 12, 15}, {5, 15, 27, 0, 1, 1, 5, 11, 14, 23, 30},
        {5, 9, 30, 0, 2, 3, 5, 11, 12, 15, 24, 31},
        {5, 9, 22, 0, 3, 4, -1, 2, 4, 7, 14, 16, 31},
        {6, 33, 62, 0, 3, 4, 6, 35, 44, 47, 50, 52, 56, 63},
        {6, 56, 7, 0, 4, 5, -1, 1, 4, 6, 11, 19, 26, 31, 35, 38, 59},
        // These have h - 1 and h - 2, and the best spare neighbour has just h + 1.
        {3, 3, 5, 1, 1, 0, 3, 1, 7}, {4, 5, 0, 1, 1, 0, 3, 1, 3, 4, 7, 10, 12},
        {4, 8, 3, 1, 2, 1, 4, 1, 2, 11}, {5, 9, 2, 1, 2, 1, 4, 3, 5, 10, 12, 16, 22, 31},
        {5, 25, 4, 1, 3, 2, 5, 0, 5, 12, 20},
        {6, 43, 34, 1, 1, 0, 3, 10, 15, 24, 35, 38, 42, 57},
        {6, 13, 43, 1, 2, 1, 4, 7, 10, 20, 25, 34, 36, 41, 47, 55},
        {6, 0, 15, 1, 3, 2, 5, 1, 6, 17, 22, 26, 29, 36, 41, 42, 45, 62},
        {6, 54, 41, 1, 4, 3, 6, 33, 35, 40, 43, 45, 57},
        // The best spare neighbour has just h, which is not enough.
        {3, 1, 4, 2, 1, 0, 2, 0, 5, 6}, {4, 7, 4, 2, 1, 0, 2, 5, 6, 10, 15},
        {4, 0, 13, 2, 2, 1, 3, 5, 9, 12, 15}, {5, 22, 2, 2, 1, 0, 2, 5, 6, 18, 24, 31},
        {5, 0, 13, 2, 2, 1, 3, 1, 12, 20, 24, 30}, {5, 13, 2, 2, 3, 2, 4, 0, 3, 6, 10, 18},
        {6, 30, 63, 2, 1, 0, 2, 2, 16, 31, 42, 52, 62},
        {6, 25, 15, 2, 2, 1, 3, 4, 11, 13, 16, 31, 57},
        {6, 50, 21, 2, 1, 2, 4, 3, 17, 20, 23, 36, 51, 58},
        {6, 28, 3, 2, 4, 3, 5, 1, 4, 6, 11, 19, 26, 31, 35, 38, 59}
    };

    public static void main(String[] args) {
        atFirst();
        highestDimension();
        killing();
        killingAll();
        reviving();
        noLivingNode();
        oneLivingNode();
        oneLivingPair();
        rounds();
        levelThresholds();
        bitThresholds();
        decisionThresholds();
        atGoalAndBeside();
        ties();
        routeEnds();
        shortestPaths();
        broadcasts();
        subcubes();
        disjointPaths();
        C.end();
    }

    // "a dimension d .. (4 at first)", "A node is alive (at first)", "without messages, with
    // 0 steps and an empty undo stack", "NONE = -1"
    private static void atFirst() {
        FaultyCube x = new FaultyCube();
        C.due("1 the dimension at first", 4, () -> x.setDimension(4));
        C.due("1 the one saved state", 0, () -> x.undo());
        C.badState("1 no other", x, () -> x.undo());
        C.due("1 all alive", 16, () -> x.freeSubcubes(0));
        C.badArgument("1 no message", x, () -> x.position(0));
        C.due("1 NONE", -1, () -> FaultyCube.NONE);
        // 0 states, d 4, 0 steps, 0 rounds, 16 safe nodes, 64 * 15, and the nodes' values.
        long h = Cubes.fold(0, 4, 0, 0, 16, 960);
        for (int v = 0; v < 16; v++) {
            h = Cubes.foldOn(h, 4, 1, 1, 1, 1);
        }
        C.due("1 the digest", Cubes.foldOn(h, 0), x::digest);
    }

    // "Node v has a neighbour in each dimension k from 0 to d - 1"
    private static void highestDimension() {
        for (int d = 1; d <= 6; d++) {
            int top = 1 << d - 1;
            FaultyCube x = Cubes.only(d, 0, top);
            String what = "8 only 0 and " + top + " of " + d;
            C.due(what + ", distance", 1, () -> x.distance(0, top));
            C.due(what + ", shortest", 1, () -> x.shortest(0, top));
            C.due(what + ", broadcastTime", 1, () -> x.broadcastTime(top, 0));
            C.due(what + ", disjointPaths", 1, () -> x.disjointPaths(0, top));
            C.due(what + ", largestSubcube", 64 * top, () -> x.largestSubcube());
            x.send(0, top);
            C.due(what + ", step", 1, () -> x.step(20));
            C.due(what + ", position", top, () -> x.position(0));
            if (d < 6) {
                C.badArgument(what + ", none beyond", x, () -> x.distance(0, 2 * top));
            }
        }
    }

    // "Returns the number of messages that become LOST by this.": from none to all 24
    private static void killing() {
        for (int sent : new int[] {0, 1, 23, 24}) {
            FaultyCube goal = Cubes.of(6);
            FaultyCube place = Cubes.of(6);
            FaultyCube last = Cubes.only(1, 1);
            for (int i = 0; i < sent; i++) {
                int other = i;
                goal.send(other, 63);
                place.send(63, other);
                last.send(1, 1);
            }
            C.due("3 kill the goal of " + sent, sent, () -> goal.kill(63));
            C.due("3 kill the place of " + sent, sent, () -> place.kill(63));
            C.due("3 lost", sent, () -> place.count(FaultyCube.LOST));
            C.due("3 kill what is lost already", 0, () -> place.kill(0));
            C.due("3 kill the last node, all delivered", 0, () -> last.kill(1));
            C.due("3 no node is left", 0, () -> last.freeSubcubes(0));
        }
    }

    /** The dimension, the mask, the number of nodes that die. */
    private static final int[][] MASKS = {
        {1, 0, 0}, {1, -1, 2}, {1, 3, 2}, {1, 2, 1}, {1, ~3, 0}, {1, 4, 0}, {2, -1, 4},
        {2, ~15, 0}, {2, 16, 0}, {3, -1, 8}, {3, ~255, 0}, {3, 128, 1}, {3, 256, 0}, {4, -1, 16},
        {4, 0xFFFF0000, 0}, {4, 0x8000, 1}, {4, 0x10000, 0}, {4, Integer.MIN_VALUE, 0},
        {4, Integer.MAX_VALUE, 16}, {5, 0, 0}, {5, -1, 32}, {5, Integer.MIN_VALUE, 1},
        {5, Integer.MAX_VALUE, 31}, {5, 1, 1}, {6, 0, 0}, {6, -1, 32},
        {6, Integer.MIN_VALUE, 1}, {6, Integer.MAX_VALUE, 31}, {6, 1, 1}, {6, -2, 31}
    };

    // "all nodes from 0 to 31 whose bits in the mask are 1, and that exist and are alive"
    private static void killingAll() {
        for (int[] row : MASKS) {
            int d = row[0];
            int mask = row[1];
            FaultyCube x = Cubes.of(d);
            String what = "5 killAll(" + mask + ") of " + d;
            C.due(what, row[2], () -> x.killAll(mask));
            for (int v = 0; v < 1 << d; v++) {
                int node = v;
                boolean dead = v < 32 && (mask >> v & 1) == 1;
                C.due(what + ", " + v, dead ? 0 : 1, () -> x.isAlive(node) ? 1 : 0);
            }
            C.due(what + " again", 0, () -> x.killAll(mask));
            C.due(what + ", undo()", 2, () -> x.undo());
            C.due(what + ", undo() again", 1, () -> x.undo());
            C.due(what + ", all alive", 1 << d, () -> x.freeSubcubes(0));
        }
        // A message whose position and goal both die is lost once.
        FaultyCube y = new FaultyCube();
        y.send(0, 1);
        y.send(1, 0);
        C.due("5 killAll(3)", 2, () -> y.killAll(3));
        C.due("5 lost", 2, () -> y.count(FaultyCube.LOST));
        C.due("5 none is moving", 0, () -> y.count(FaultyCube.MOVING));
    }

    // "Returns the number of dead nodes that are left.": from all but one to none
    private static void reviving() {
        for (int d = 1; d <= 6; d++) {
            FaultyCube x = Cubes.only(d);
            for (int v = 0; v < 1 << d; v++) {
                int node = v;
                C.due("4 revive(" + v + ") of " + d, (1 << d) - 1 - v, () -> x.revive(node));
            }
            C.due("4 all safe in " + d, 1 << d, () -> x.safeNodes());
        }
    }

    // "Before the first round each dead node has the level 0", "All bits of a dead node are
    // 0", "NONE if all nodes are dead"
    private static void noLivingNode() {
        for (int d = 1; d <= 6; d++) {
            int dimension = d;
            FaultyCube x = Cubes.only(d);
            String what = ", none of " + d + " alive";
            C.due("10 rounds()" + what, 0, () -> x.rounds());
            C.due("11 safeNodes()" + what, 0, () -> x.safeNodes());
            C.due("20 largestSubcube()" + what, -1, () -> x.largestSubcube());
            long h = Cubes.fold(Math.min(4, 1 + (1 << d)), d, 0, 0, 0, -1);
            for (int v = 0; v < 1 << d; v++) {
                int node = v;
                C.due("9 level(" + v + ")" + what, 0, () -> x.level(node));
                C.due("12 u(1) of " + v + what, 0, () -> x.vectorBit(node, 1));
                C.due("12 u(d) of " + v + what, 0, () -> x.vectorBit(node, dimension));
                h = Cubes.foldOn(h, new long[d + 1]);
            }
            for (int k = 0; k <= d; k++) {
                int subcube = k;
                C.due("19 freeSubcubes(" + k + ")" + what, 0, () -> x.freeSubcubes(subcube));
            }
            C.due("29 digest()" + what, Cubes.foldOn(h, 0), x::digest);
        }
    }

    // "the new level is the least k for which S(k) is less than k, or d if there is no such
    // k", "for a node that is alive, u(1) is 1": with no living neighbour at all
    private static void oneLivingNode() {
        for (int d = 1; d <= 6; d++) {
            int last = (1 << d) - 1;
            for (int v : new int[] {0, last}) {
                FaultyCube x = Cubes.only(d, v);
                String what = ", only " + v + " of " + d + " alive";
                C.due("9 level" + what, 1, () -> x.level(v));
                C.due("10 rounds()" + what, d == 1 ? 0 : 1, () -> x.rounds());
                C.due("11 safeNodes()" + what, d == 1 ? 1 : 0, () -> x.safeNodes());
                for (int k = 1; k <= d; k++) {
                    int bit = k;
                    C.due("12 u(" + k + ")" + what, k == 1 ? 1 : 0, () -> x.vectorBit(v, bit));
                }
                C.due("8 shortest" + what, 0, () -> x.shortest(v, v));
                C.due("13 decide" + what, FaultyCube.OPTIMAL, () -> x.decide(v, v));
                C.due("16 reach, OPTIMAL" + what, 0, () -> x.reach(v, FaultyCube.OPTIMAL));
                C.due("16 reach, REFUSED" + what, 0, () -> x.reach(v, FaultyCube.REFUSED));
                C.due("17 broadcastTime" + what, 0, () -> x.broadcastTime(v, v));
                C.due("17 to a dead node" + what, -1, () -> x.broadcastTime(v, last - v));
                C.due("18 broadcastSize" + what, 1, () -> x.broadcastSize(v));
                C.due("19 freeSubcubes(0)" + what, 1, () -> x.freeSubcubes(0));
                C.due("19 freeSubcubes(1)" + what, 0, () -> x.freeSubcubes(1));
                C.due("20 largestSubcube()" + what, v, () -> x.largestSubcube());
            }
        }
    }

    // The same with one living neighbour: S(d - 1) alone is not 0, "u(k) is 1 if more than
    // d - k of its neighbours have u(k - 1) = 1"
    private static void oneLivingPair() {
        for (int d = 2; d <= 6; d++) {
            FaultyCube x = Cubes.only(d, 2, 3);
            String what = ", only 2 and 3 of " + d + " alive";
            C.due("9 level" + what, d == 2 ? 2 : 1, () -> x.level(3));
            C.due("10 rounds()" + what, d == 2 ? 0 : 1, () -> x.rounds());
            C.due("11 safeNodes()" + what, d == 2 ? 2 : 0, () -> x.safeNodes());
            for (int k = 1; k <= d; k++) {
                int bit = k;
                C.due("12 u(" + k + ")" + what, k == 1 || d == 2 ? 1 : 0,
                        () -> x.vectorBit(2, bit));
            }
            C.due("13 decide" + what, FaultyCube.OPTIMAL, () -> x.decide(2, 3));
            C.due("14 routeLength" + what, 1, () -> x.routeLength(2, 3));
            C.due("20 largestSubcube()" + what, 64 + 2, () -> x.largestSubcube());
            C.due("21 disjointPaths" + what, 1, () -> x.disjointPaths(2, 3));
        }
    }

    // "The number of rounds is the number of rounds that changed a level.": from 0 to d - 1
    private static void rounds() {
        for (int[] row : ROUNDS) {
            FaultyCube x = Cubes.of(row[0], Cubes.rest(row, 2));
            C.due("10 rounds() of " + row[0], row[1], () -> x.rounds());
            x.setDimension(row[0]);
            C.due("10 rounds(), anew", 0, () -> x.rounds());
            x.undo();
            C.due("10 rounds(), undone", row[1], () -> x.rounds());
        }
    }

    // "the new level is the least k for which S(k) is less than k": k - 1 is, k is not
    private static void levelThresholds() {
        for (int[] row : LEVELS) {
            int d = row[0];
            int node = row[1];
            int want = row[2];
            int k = row[3];
            FaultyCube x = Cubes.of(d, Cubes.rest(row, 4));
            int[] s = new int[d];
            for (int i = 0; i < d; i++) {
                s[i] = x.level(node ^ 1 << i);
            }
            Arrays.sort(s);
            String what = "9 level(" + node + ") of " + d;
            C.due(what + ", S(" + k + ")", want == k ? k - 1 : k, () -> s[k]);
            C.due(what, want, () -> x.level(node));
            // "A node is safe if its safety level is d.": with d - 1 it is not.
            C.due("11 safeNodes(), those of level " + d, withLevel(x, d), () -> x.safeNodes());
        }
    }

    private static int withLevel(FaultyCube x, int d) {
        int found = 0;
        for (int v = 0; v < 1 << d; v++) {
            found += x.level(v) == d ? 1 : 0;
        }
        return found;
    }

    // "u(k) is 1 if more than d - k of its neighbours have u(k - 1) = 1, and 0 otherwise":
    // with d - k it is 0, with d - k + 1 it is 1
    private static void bitThresholds() {
        for (int[] row : BITS) {
            int d = row[0];
            int node = row[1];
            int k = row[2];
            FaultyCube x = Cubes.of(d, Cubes.rest(row, 4));
            int ones = 0;
            for (int i = 0; i < d; i++) {
                ones += x.vectorBit(node ^ 1 << i, k - 1);
            }
            int counted = ones;
            String what = "12 vectorBit(" + node + ", " + k + ") of " + d;
            C.due(what + ", its neighbours", d - k + row[3], () -> counted);
            C.due(what, row[3], () -> x.vectorBit(node, k));
        }
    }

    // "the safety level of s is at least h", "a safety level of at least h - 1", "a safety
    // level of at least h + 1", "REFUSED (2) otherwise"
    private static void decisionThresholds() {
        for (int[] row : DECISIONS) {
            int d = row[0];
            int from = row[1];
            int to = row[2];
            FaultyCube x = Cubes.of(d, Cubes.rest(row, 7));
            String what = "13 decide(" + from + ", " + to + ") of " + d;
            C.due(what + ", the source", row[4], () -> x.level(from));
            C.due(what + ", preferred", row[5], () -> greatest(x, d, from, from ^ to));
            C.due(what + ", spare", row[6], () -> greatest(x, d, from, ~(from ^ to)));
            C.due(what, row[3], () -> x.decide(from, to));
            int apart = Integer.bitCount(from ^ to);
            int length = row[3] == 0 ? apart : row[3] == 1 ? apart + 2 : -1;
            C.due("14 routeLength(" + from + ", " + to + ") of " + d, length,
                    () -> x.routeLength(from, to));
            checkRoute(x, from, to, length);
        }
    }

    private static int greatest(FaultyCube x, int d, int node, int dimensions) {
        int best = -1;
        for (int k = 0; k < d; k++) {
            if ((dimensions >> k & 1) == 1) {
                best = Math.max(best, x.level(node ^ 1 << k));
            }
        }
        return best;
    }

    // "These routes never come to a dead node.", "index: .. 0 for the node from which the
    // route starts", "NONE if the decision is REFUSED or index is greater than the length"
    private static void checkRoute(FaultyCube x, int from, int to, int length) {
        String what = "15 the route from " + from + " to " + to;
        C.due(what + ", 0", length < 0 ? -1 : from, () -> x.routeNode(from, to, 0));
        C.due(what + ", length + 1", -1, () -> x.routeNode(from, to, length + 1));
        C.due(what + ", the greatest", -1, () -> x.routeNode(from, to, Integer.MAX_VALUE));
        if (length >= 0) {
            C.due(what + ", length", to, () -> x.routeNode(from, to, length));
        }
        for (int i = 1; i <= length; i++) {
            int before = x.routeNode(from, to, i - 1);
            int node = x.routeNode(from, to, i);
            C.due(what + ", " + i + ", one move", 1, () -> x.distance(before, node));
            C.due(what + ", " + i + ", alive", 1, () -> x.isAlive(node) ? 1 : 0);
        }
    }

    // "OPTIMAL (0) if h is 0", "(At distance 1 this is t.)": whatever the levels are
    private static void atGoalAndBeside() {
        for (int d = 1; d <= 6; d++) {
            for (int k = 0; k < d; k++) {
                int from = (1 << d) - 1;
                int to = from ^ 1 << k;
                FaultyCube x = Cubes.only(d, from, to);
                C.due("13 h 0", FaultyCube.OPTIMAL, () -> x.decide(from, from));
                C.due("14 h 0", 0, () -> x.routeLength(from, from));
                C.due("15 h 0, index 0", from, () -> x.routeNode(from, from, 0));
                C.due("15 h 0, index 1", -1, () -> x.routeNode(from, from, 1));
                C.due("13 h 1", FaultyCube.OPTIMAL, () -> x.decide(from, to));
                C.due("14 h 1", 1, () -> x.routeLength(from, to));
                C.due("15 h 1, index 1", to, () -> x.routeNode(from, to, 1));
                C.due("15 h 1, index 2", -1, () -> x.routeNode(from, to, 2));
                C.due("16 reach, only itself and one beside", 1, () -> x.reach(from, 0));
            }
        }
        // "some spare neighbour": with h = d there is none.
        for (int d = 2; d <= 6; d++) {
            int last = (1 << d) - 1;
            FaultyCube x = Cubes.only(d, 0, last);
            C.due("13 h d", FaultyCube.REFUSED, () -> x.decide(0, last));
            C.due("14 h d", -1, () -> x.routeLength(0, last));
            C.due("15 h d, index 0", -1, () -> x.routeNode(0, last, 0));
            C.due("16 h d", 1, () -> x.reach(0, FaultyCube.REFUSED));
        }
    }

    // "of several, to the one in the lowest dimension", "(of several, the one in the lowest
    // dimension)"
    private static void ties() {
        FaultyCube whole = Cubes.of(6);
        int[] nodes = {21, 20, 22, 18, 26, 10, 42};
        for (int i = 0; i < nodes.length; i++) {
            int index = i;
            C.due("15 all equal, " + i, nodes[i], () -> whole.routeNode(21, 42, index));
        }
        // 1 and 2 are dead; the spare neighbours 4, 8, 16 and 32 are all safe.
        FaultyCube spare = Cubes.of(6, 1, 2);
        int[] around = {0, 4, 5, 7, 3};
        for (int i = 0; i < around.length; i++) {
            int index = i;
            C.due("15 equal and spare, " + i, around[i], () -> spare.routeNode(0, 3, index));
        }
        // The lowest neighbour has the level 1, the next is safe: greater before lower.
        FaultyCube greater = Cubes.of(6, 3, 5);
        C.due("9 level(1), two dead beside it", 1, () -> greater.level(1));
        C.due("15 greater before lower", 2, () -> greater.routeNode(0, 63, 1));
    }

    // "its length is h + 2": the shortest and the longest detour of each dimension
    private static void routeEnds() {
        for (int d = 3; d <= 6; d++) {
            FaultyCube x = Cubes.of(d, 1, 2);
            C.due("13 a detour of " + d, FaultyCube.DETOUR, () -> x.decide(0, 3));
            C.due("14 a detour of " + d, 4, () -> x.routeLength(0, 3));
            C.due("15 a detour of " + d + ", the end", 3, () -> x.routeNode(0, 3, 4));
            C.due("15 a detour of " + d + ", beyond", -1, () -> x.routeNode(0, 3, 5));
            C.due("16 a detour of " + d, 1, () -> x.reach(0, FaultyCube.DETOUR));
        }
    }

    /** In the cube of dimension 6: each beside the next and no other, 26 moves, the most. */
    private static final int[] SNAKE = {
        0, 1, 3, 7, 15, 13, 12, 28, 20, 21, 53, 37, 36, 38, 46, 62, 63, 59, 43, 41, 40, 56, 48,
        50, 18, 26, 10
    };

    // "0 if both are the same; NONE if there is no path": and the longest way of all
    private static void shortestPaths() {
        FaultyCube snake = Cubes.only(6, SNAKE);
        for (int i = 0; i <= 26; i++) {
            int node = SNAKE[i];
            C.due("8 shortest, along " + i, i, () -> snake.shortest(0, node));
            C.due("8 shortest, back along " + i, i, () -> snake.shortest(node, 0));
            C.due("8 shortest, the rest of " + i, 26 - i, () -> snake.shortest(node, 10));
        }
        snake.kill(63);
        C.due("8 shortest, cut", -1, () -> snake.shortest(0, 10));
        C.due("8 shortest, before the cut", 15, () -> snake.shortest(0, 62));
        C.due("8 shortest, behind the cut", 9, () -> snake.shortest(59, 10));
        FaultyCube walled = Cubes.of(6, 62, 61, 59, 55, 47);
        C.due("8 shortest, one way in", 6, () -> walled.shortest(0, 63));
        walled.kill(31);
        C.due("8 shortest, no way in", -1, () -> walled.shortest(0, 63));
        C.due("8 shortest, no way out", -1, () -> walled.shortest(63, 0));
        C.due("8 shortest, walled in, to itself", 0, () -> walled.shortest(63, 63));
    }

    // "A broadcast starts .. at the time 0, with the list of all dimensions", "A dead node
    // does not get the message and sends nothing.", "NONE if it does not get the message"
    private static void broadcasts() {
        for (int d = 1; d <= 6; d++) {
            int last = (1 << d) - 1;
            FaultyCube x = Cubes.of(d);
            for (int v = 0; v <= last; v++) {
                int to = v;
                C.due("17 to " + v + " of " + d, Integer.bitCount(v ^ last),
                        () -> x.broadcastTime(last, to));
            }
            // The dead neighbour has the level 0, so nothing is left for it to send on.
            FaultyCube one = Cubes.of(d, 1);
            C.due("17 to the dead node of " + d, -1, () -> one.broadcastTime(0, 1));
            C.due("18 all but the dead node of " + d, last, () -> one.broadcastSize(0));
        }
        // 1 has the least level of the neighbours of 0, but it is alive.
        FaultyCube least = Cubes.of(3, 3, 5);
        C.due("9 level(1), the least", 1, () -> least.level(1));
        C.due("17 to the last of the list", 1, () -> least.broadcastTime(0, 1));
        C.due("18 all six", 6, () -> least.broadcastSize(0));
        // "the dimensions at the positions i + 1 to n - 1 as its list": 7 has an empty one and
        // sends nothing to 3, which is beside it and alive.
        FaultyCube empty = Cubes.of(3, 1, 2);
        C.due("17 to 7, by 4 and 5", 3, () -> empty.broadcastTime(0, 7));
        C.due("17 not on from 7", -1, () -> empty.broadcastTime(0, 3));
        C.due("18 not on from 7", 5, () -> empty.broadcastSize(0));
    }

    // "k: 0 to d", "of the free subcubes with the greatest dimension the one with the least
    // mask, and of these the one with the least base"
    private static void subcubes() {
        for (int d = 1; d <= 6; d++) {
            int dimension = d;
            FaultyCube x = Cubes.of(d);
            C.due("20 whole, " + d, 64 * ((1 << d) - 1), () -> x.largestSubcube());
            x.kill((1 << d) - 1);
            C.due("19 one dead, d", 0, () -> x.freeSubcubes(dimension));
            C.due("19 one dead, d - 1", d, () -> x.freeSubcubes(dimension - 1));
            C.due("19 one dead, 0", (1 << d) - 1, () -> x.freeSubcubes(0));
            C.due("20 the last dead, " + d, 64 * ((1 << d - 1) - 1), () -> x.largestSubcube());
            x.revive((1 << d) - 1);
            x.kill(0);
            C.due("20 the first dead, " + d, 64 * ((1 << d - 1) - 1) + (1 << d - 1),
                    () -> x.largestSubcube());
        }
        FaultyCube points = Cubes.only(6, 63, 48, 36);
        C.due("20 only points, the least base", 36, () -> points.largestSubcube());
        FaultyCube edges = Cubes.only(6, 63, 31, 20, 21);
        C.due("20 two edges, the least mask", 64 + 20, () -> edges.largestSubcube());
        edges.kill(20);
        C.due("20 one edge, the greatest mask", 64 * 32 + 31, () -> edges.largestSubcube());
        edges.kill(31);
        C.due("20 no edge", 21, () -> edges.largestSubcube());
    }

    // "no two of which have a node other than s and t in common": from none to d paths
    private static void disjointPaths() {
        for (int d = 2; d <= 6; d++) {
            int last = (1 << d) - 1;
            for (int k = 0; k < d; k++) {
                FaultyCube x = Cubes.of(d);
                for (int i = 0; i < k; i++) {
                    x.kill(last ^ 1 << i);
                }
                C.due("21 " + k + " dead beside the goal of " + d, d - k,
                        () -> x.disjointPaths(0, last));
                C.due("21 " + k + " dead beside the source of " + d, d - k,
                        () -> x.disjointPaths(last, 0));
            }
            FaultyCube walled = Cubes.of(d);
            for (int i = 0; i < d; i++) {
                walled.kill(1 << i);
            }
            C.due("21 none of " + d, 0, () -> walled.disjointPaths(last, 0));
        }
        FaultyCube two = Cubes.only(1, 0, 1);
        C.due("21 the dimension 1", 1, () -> two.disjointPaths(1, 0));
        // 7 alone joins the two halves, so all paths have it in common.
        FaultyCube narrow = Cubes.only(4, 0, 1, 2, 3, 7, 12, 13, 14, 15);
        C.due("21 one node in common", 1, () -> narrow.disjointPaths(0, 12));
        C.due("21 to that node itself", 1, () -> narrow.disjointPaths(0, 7));
        C.due("21 on one side of it", 2, () -> narrow.disjointPaths(0, 3));
    }
}
